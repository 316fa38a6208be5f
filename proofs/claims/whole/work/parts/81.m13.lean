/-! METHODS as functions, laid by decomp.py -/
theorem ev_ab_720 : ev_isAb 720 1 .boolean = true := (by decide +kernel)
theorem ev_ab_701 : ev_isAb 701 1 .int = true := (by decide +kernel)
theorem ev_ab_700 : ev_isAb 700 1 .int = true := (by decide +kernel)
theorem ev_ab_702 : ev_isAb 702 1 .int = true := (by decide +kernel)
theorem ev_ab_710 : ev_isAb 710 1 .int = true := (by decide +kernel)
theorem ev_ab_709 : ev_isAb 709 1 .int = true := (by decide +kernel)
theorem ev_ab_711 : ev_isAb 711 1 .boolean = true := (by decide +kernel)
theorem ev_ab_713 : ev_isAb 713 1 .byte = true := (by decide +kernel)
theorem ev_ab_712 : ev_isAb 712 1 .int = true := (by decide +kernel)
theorem ev_ab_715 : ev_isAb 715 1 .int = true := (by decide +kernel)
theorem ev_ab_714 : ev_isAb 714 1 .int = true := (by decide +kernel)
def jb_319_21 (Q : Nat) (a0 : Int)  (K21 : Int → Int → Int → ev_St → Option ((Int) × ev_St)) (x5 : Int) (x6 : Int) (x7 : Int) (s14 : ev_St) : Option ((Int) × ev_St) := ev_b (s14.1 621 68) fun x15 => if x15 ≤ x7 then (if x6 = 0 then (some (x5, s14)) else (ev_if ((0 : Int) ≤ a0 ∧ a0 < (ev_aln 720 : Int)) (ev_b (s14.1 720 (Int.toNat a0)) fun x18 => if x18 ≠ 0 then (some (x5, s14)) else (some ((-5), s14))))) else (ev_jn (fun (x20 : Int) (s26 : ev_St) => ev_ck (x7 + 1) fun x27 => K21 x5 x20 x27 s26) fun K54 => ev_jn (fun  (s33 : ev_St) => K54 1 s33) fun K49 => if x6 ≠ 0 then (K49  s14) else (ev_if ((0 : Int) ≤ x7 ∧ x7 < (ev_aln 674 : Int)) (ev_b (s14.1 674 (Int.toNat x7)) fun x35 => ev_if ((0 : Int) ≤ x35 ∧ x35 < (ev_aln 673 : Int)) (ev_b (s14.1 673 (Int.toNat x35)) fun x36 => if x36 = 0 then (K54 0 s14) else (K49  s14)))))
def jl_319_21 (Q : Nat) (a0 : Int)  : Nat → Int → Int → Int → ev_St → Option ((Int) × ev_St)
  | 0 => fun _ _ _ _ => none
  | q + 1 => jb_319_21 Q a0  (jl_319_21 Q a0  q)
theorem jbt_319_21 (d : Nat) (hd : 4 ≤ d + 1) (Q : Nat) (a0 : Int) (ha0 : ev_rng a0)   (K21 : Int → Int → Int → ev_St → Option ((Int) × ev_St)) (hK21 : ∀ (x5 : Int) (hx5 : ev_rng x5), ∀ (x6 : Int) (hx6 : ev_rng x6), ∀ (x7 : Int) (hx7 : ev_rng x7), ∀ (s14 : ev_St) (w8 : List (Nat × Value)), ev_lk w8 0 = some (.ref 621) → ev_lk w8 1 = some (.int (Int32.ofInt a0)) → ev_lk w8 2 = some (.int (Int32.ofInt x5)) → ev_lk w8 3 = some (.int (Int32.ofInt x6)) → ev_lk w8 4 = some (.int (Int32.ofInt x7)) → ev_w none (ev_Mof 319) d 21 w8 [] s14 (K21 x5 x6 x7 s14) ev_eI ev_rng) : ∀ (x5 : Int) (hx5 : ev_rng x5), ∀ (x6 : Int) (hx6 : ev_rng x6), ∀ (x7 : Int) (hx7 : ev_rng x7), ∀ (s14 : ev_St) (w8 : List (Nat × Value)), ev_lk w8 0 = some (.ref 621) → ev_lk w8 1 = some (.int (Int32.ofInt a0)) → ev_lk w8 2 = some (.int (Int32.ofInt x5)) → ev_lk w8 3 = some (.int (Int32.ofInt x6)) → ev_lk w8 4 = some (.int (Int32.ofInt x7)) → ev_w none (ev_Mof 319) d 21 w8 [] s14 (jb_319_21 Q a0  K21 x5 x6 x7 s14) ev_eI ev_rng := by
  intro x5 hx5 x6 hx6 x7 hx7 s14 w8 e9 e10 e11 e12 e13
  unfold jb_319_21
  refine ev_r_iload (pc := 21) (k := 4) (v := Int32.ofInt x7) (by decide +kernel) (by exact e13) ?_
  refine ev_r_aload_n (pc := 23) (k := 0) (v := .ref 621) trivial (by decide +kernel) (by exact e9) ?_
  refine ev_r_getI (pc := 24) (y := 695) (ci := 13) (f := 68) (fin := 0) (by decide +kernel) (by decide +kernel) (by exact ev_ob_621) rfl ?_
  intro x15 hx15
  refine ev_r_icmp (pc := 27) (q := .ge) (o := 34) (t := 61) (c := x15 ≤ x7) (by decide +kernel) (ev_k_ge hx7 hx15) (by decide +kernel) ?_ ?_
  · intro c16
    refine ev_r_iload_n (pc := 61) (k := 3) (v := Int32.ofInt x6) (by decide +kernel) (by exact e12) ?_
    refine ev_r_if (pc := 62) (q := .eq) (o := 17) (t := 79) (c := x6 = 0) (by decide +kernel) (ev_k_eq hx6 ev_rng0) (by decide +kernel) ?_ ?_
    · intro c17
      refine ev_r_iload_n (pc := 79) (k := 2) (v := Int32.ofInt x5) (by decide +kernel) (by exact e11) ?_
      exact ev_r_ireturn (pc := 80) (x := x5) (v := Int32.ofInt x5) (ty := .int) hx5 (by decide +kernel) (by decide +kernel) rfl rfl
    · intro c17
      refine ev_r_aload_n (pc := 65) (k := 0) (v := .ref 621) trivial (by decide +kernel) (by exact e9) ?_
      refine ev_r_getC (pc := 66) (y := 312) (ci := 13) (f := 142) (fin := 1) (k' := 720) (by decide +kernel) (by decide +kernel) (by exact ev_ob_621) rfl rfl ?_
      refine ev_r_iload_n (pc := 69) (k := 1) (v := Int32.ofInt a0) (by decide +kernel) (by exact e10) ?_
      refine ev_r_bald (pc := 70) (ty := .boolean) (Or.inr rfl) ha0 (by decide +kernel) (by exact ev_ab_720) ?_
      intro x18 hx18
      refine ev_r_if (pc := 71) (q := .ne) (o := 8) (t := 79) (c := x18 ≠ 0) (by decide +kernel) (ev_k_ne hx18 ev_rng0) (by decide +kernel) ?_ ?_
      · intro c19
        refine ev_r_iload_n (pc := 79) (k := 2) (v := Int32.ofInt x5) (by decide +kernel) (by exact e11) ?_
        exact ev_r_ireturn (pc := 80) (x := x5) (v := Int32.ofInt x5) (ty := .int) hx5 (by decide +kernel) (by decide +kernel) rfl rfl
      · intro c19
        refine ev_r_bipush (pc := 74) (k := -5) (by decide +kernel) (by decide +kernel) ?_
        refine ev_r_goto (pc := 76) (o := 4) (t := 80) (by decide +kernel) (by decide +kernel) ?_
        exact ev_r_ireturn (pc := 80) (x := (-5)) (v := Int32.ofInt ((-5))) (ty := .int) (by decide) (by decide +kernel) (by decide +kernel) rfl rfl
  · intro c16
    refine ev_r_iload_n (pc := 30) (k := 3) (v := Int32.ofInt x6) (by decide +kernel) (by exact e12) ?_
    refine ev_r_jn (Q := fun K => ∀ (x20 : Int) (hx20 : ev_rng x20), ∀ (s26 : ev_St) (w21 : List (Nat × Value)), ev_lk w21 0 = some (.ref 621) → ev_lk w21 1 = some (.int (Int32.ofInt a0)) → ev_lk w21 2 = some (.int (Int32.ofInt x5)) → ev_lk w21 4 = some (.int (Int32.ofInt x7)) → ev_w none (ev_Mof 319) d 54 w21 [.int (Int32.ofInt x20)] s26 (K x20 s26) ev_eI ev_rng) ?_ ?_
    · intro x20 hx20 s26 w21 e22 e23 e24 e25
      refine ev_r_istore_n (pc := 54) (k := 3) (by decide +kernel) (by decide +kernel) rfl ?_
      refine ev_r_iinc (pc := 55) (k := 4) (c := 1) (x := x7) (by decide +kernel) (by decide +kernel) (by exact (ev_l1 e25 (by decide) (by decide))) (fun _ => rfl) ?_
      intro x27 hx27
      refine ev_r_goto (pc := 58) (o := (-37)) (t := 21) (by decide +kernel) (by decide +kernel) ?_
      exact hK21 x5 hx5 x20 hx20 x27 hx27 s26 _ (by exact (ev_l1 (ev_l1 e22 (by decide) (by decide)) (by decide) (by decide))) (by exact (ev_l1 (ev_l1 e23 (by decide) (by decide)) (by decide) (by decide))) (by exact (ev_l1 (ev_lk_st1 e24 (by decide) rfl) (by decide) (by decide))) (by exact (ev_lk_st1 ev_lk_st1_self (by decide) rfl)) (by exact ev_lk_st1_self)
    · intro K54 hK54
      refine ev_r_jn (Q := fun K => ∀ (s33 : ev_St) (w28 : List (Nat × Value)), ev_lk w28 0 = some (.ref 621) → ev_lk w28 1 = some (.int (Int32.ofInt a0)) → ev_lk w28 2 = some (.int (Int32.ofInt x5)) → ev_lk w28 4 = some (.int (Int32.ofInt x7)) → ev_w none (ev_Mof 319) d 49 w28 [] s33 (K  s33) ev_eI ev_rng) ?_ ?_
      · intro  s33 w28 e29 e30 e31 e32
        refine ev_r_iconst (pc := 49) (k := 1) (by decide +kernel) ?_
        refine ev_r_goto (pc := 50) (o := 4) (t := 54) (by decide +kernel) (by decide +kernel) ?_
        exact hK54 1 (by decide) s33 _ (by exact e29) (by exact e30) (by exact e31) (by exact e32)
      · intro K49 hK49
        refine ev_r_if (pc := 31) (q := .ne) (o := 18) (t := 49) (c := x6 ≠ 0) (by decide +kernel) (ev_k_ne hx6 ev_rng0) (by decide +kernel) ?_ ?_
        · intro c34
          exact hK49  s14 _ (by exact e9) (by exact e10) (by exact e11) (by exact e13)
        · intro c34
          refine ev_r_aload_n (pc := 34) (k := 0) (v := .ref 621) trivial (by decide +kernel) (by exact e9) ?_
          refine ev_r_getC (pc := 35) (y := 166) (ci := 13) (f := 67) (fin := 1) (k' := 673) (by decide +kernel) (by decide +kernel) (by exact ev_ob_621) rfl rfl ?_
          refine ev_r_aload_n (pc := 38) (k := 0) (v := .ref 621) trivial (by decide +kernel) (by exact e9) ?_
          refine ev_r_getC (pc := 39) (y := 169) (ci := 13) (f := 69) (fin := 1) (k' := 674) (by decide +kernel) (by decide +kernel) (by exact ev_ob_621) rfl rfl ?_
          refine ev_r_iload (pc := 42) (k := 4) (v := Int32.ofInt x7) (by decide +kernel) (by exact e13) ?_
          refine ev_r_iald (pc := 44) hx7 (by decide +kernel) (by exact ev_ab_674) ?_
          intro x35 hx35
          refine ev_r_bald (pc := 45) (ty := .boolean) (Or.inr rfl) hx35 (by decide +kernel) (by exact ev_ab_673) ?_
          intro x36 hx36
          refine ev_r_if (pc := 46) (q := .eq) (o := 7) (t := 53) (c := x36 = 0) (by decide +kernel) (ev_k_eq hx36 ev_rng0) (by decide +kernel) ?_ ?_
          · intro c37
            refine ev_r_iconst (pc := 53) (k := 0) (by decide +kernel) ?_
            exact hK54 0 (by decide) s14 _ (by exact e9) (by exact e10) (by exact e11) (by exact e13)
          · intro c37
            exact hK49  s14 _ (by exact e9) (by exact e10) (by exact e11) (by exact e13)
theorem jlt_319_21 (d : Nat) (hd : 4 ≤ d + 1) (Q : Nat) (a0 : Int) (ha0 : ev_rng a0)   : ∀ q : Nat, ∀ (x5 : Int) (hx5 : ev_rng x5), ∀ (x6 : Int) (hx6 : ev_rng x6), ∀ (x7 : Int) (hx7 : ev_rng x7), ∀ (s14 : ev_St) (w8 : List (Nat × Value)), ev_lk w8 0 = some (.ref 621) → ev_lk w8 1 = some (.int (Int32.ofInt a0)) → ev_lk w8 2 = some (.int (Int32.ofInt x5)) → ev_lk w8 3 = some (.int (Int32.ofInt x6)) → ev_lk w8 4 = some (.int (Int32.ofInt x7)) → ev_w none (ev_Mof 319) d 21 w8 [] s14 (jl_319_21 Q a0  q x5 x6 x7 s14) ev_eI ev_rng := by
  intro q
  induction q with
  | zero =>
    intro x5 hx5 x6 hx6 x7 hx7 s14 w8 e9 e10 e11 e12 e13
    exact ev_w_none
  | succ q ih => exact jbt_319_21 d hd Q a0 ha0   _ ih
/-- MendBenchModel.tells(I)I -/
def jm_319 (Q : Nat) (a0 : Int) (S : ev_St) : Option ((Int) × ev_St) := ev_bd (jm_318 Q a0 S) fun x2 s1 => ev_if ((0 : Int) ≤ a0 ∧ a0 < (ev_aln 718 : Int)) (ev_b (s1.1 718 (Int.toNat a0)) fun x3 => ev_bd (jm_316 Q x3 s1) fun _ s4 => jl_319_21 Q a0  Q x2 0 0 s4)
theorem jt_319 (d : Nat) (hd : 4 ≤ d) (Q : Nat) (a0 : Int) (ha0 : ev_rng a0) (S : ev_St) (x : Int) (S' : ev_St) (hJ : jm_319 Q a0 S = some (x, S')) : ev_Ref d 319 [.ref 621, .int (Int32.ofInt a0)] S (ev_eI x) S' (ev_rng x) := by
  obtain ⟨d, rfl⟩ : ∃ e, d = e + 1 := ⟨d - 1, by omega⟩
  refine ev_ref_of (P := ev_rng) (lv := [(0, .ref 621), (1, .int (Int32.ofInt a0))]) (by decide +kernel) (by (try simp only [ev_sum, ev_nv_cat]); first | done | rfl) (by (try simp only [lv_args, ev_nv_cat]); first | done | rfl) ?_ x S' hJ
  unfold jm_319
  refine ev_r_aload_n (pc := 0) (k := 0) (v := .ref 621) trivial (by decide +kernel) (by rfl) ?_
  refine ev_r_iload_n (pc := 1) (k := 1) (v := Int32.ofInt a0) (by decide +kernel) (by rfl) ?_
  refine ev_r_virt (pc := 2) (y := 701) (mi := 318) (na := 1) (k := 621) (as := [.int (Int32.ofInt a0)]) (rest := []) (encc := ev_oI) (Q := ev_rng) (fun x S1 h => jt_318 d (by omega) Q a0 ha0 S x S1 h) (by exact ev_ob_621) (by decide +kernel) (by decide +kernel) (by decide +kernel) (by decide +kernel) rfl (by (try simp only [ev_sum, ev_nv_cat]); first | done | rfl) ?_
  intro x2 s1 hx2
  show ev_w _ _ _ _ _ [.int (Int32.ofInt x2)] _ _ _ _
  refine ev_r_istore_n (pc := 5) (k := 2) (by decide +kernel) (by decide +kernel) rfl ?_
  refine ev_r_iconst (pc := 6) (k := 0) (by decide +kernel) ?_
  refine ev_r_istore_n (pc := 7) (k := 3) (by decide +kernel) (by decide +kernel) rfl ?_
  refine ev_r_aload_n (pc := 8) (k := 0) (v := .ref 621) trivial (by decide +kernel) (by exact (ev_l1 (ev_l1 (by rfl) (by decide) (by decide)) (by decide) (by decide))) ?_
  refine ev_r_aload_n (pc := 9) (k := 0) (v := .ref 621) trivial (by decide +kernel) (by exact (ev_l1 (ev_l1 (by rfl) (by decide) (by decide)) (by decide) (by decide))) ?_
  refine ev_r_getC (pc := 10) (y := 306) (ci := 13) (f := 140) (fin := 1) (k' := 718) (by decide +kernel) (by decide +kernel) (by exact ev_ob_621) rfl rfl ?_
  refine ev_r_iload_n (pc := 13) (k := 1) (v := Int32.ofInt a0) (by decide +kernel) (by exact (ev_l1 (ev_lk_st1 (by rfl) (by decide) rfl) (by decide) (by decide))) ?_
  refine ev_r_iald (pc := 14) ha0 (by decide +kernel) (by exact ev_ab_718) ?_
  intro x3 hx3
  refine ev_r_virt (pc := 15) (y := 704) (mi := 316) (na := 1) (k := 621) (as := [.int (Int32.ofInt x3)]) (rest := []) (encc := ev_oU) (Q := ev_PU) (fun x S1 h => jt_316 d (by omega) Q x3 hx3 s1 x S1 h) (by exact ev_ob_621) (by decide +kernel) (by decide +kernel) (by decide +kernel) (by decide +kernel) rfl (by (try simp only [ev_sum, ev_nv_cat]); first | done | rfl) ?_
  intro _ s4 _
  show ev_w _ _ _ _ _ [] _ _ _ _
  refine ev_r_iconst (pc := 18) (k := 0) (by decide +kernel) ?_
  refine ev_r_istore (pc := 19) (k := 4) (by decide +kernel) (by decide +kernel) rfl ?_
  exact jlt_319_21 d hd Q a0 ha0   Q x2 hx2 0 (by decide) 0 (by decide) s4 _ (by exact (ev_l1 (ev_l1 (ev_l1 (by rfl) (by decide) (by decide)) (by decide) (by decide)) (by decide) (by decide))) (by exact (ev_l1 (ev_l1 (ev_lk_st1 (by rfl) (by decide) rfl) (by decide) (by decide)) (by decide) (by decide))) (by exact (ev_l1 (ev_lk_st1 ev_lk_st1_self (by decide) rfl) (by decide) (by decide))) (by exact (ev_lk_st1 ev_lk_st1_self (by decide) rfl)) (by exact ev_lk_st1_self)
/-- MendBenchModel.isStream(I)Z -/
def jm_320 (Q : Nat) (a0 : Int) (S : ev_St) : Option ((Int) × ev_St) := ev_b (S.1 621 139) fun x1 => ev_ck (x1 - 1) fun x2 => ev_bd (jm_222 Q a0 0 x2 S) fun x4 s3 => ev_if (ev_bl x4) (some (x4, s3))
theorem jt_320 (d : Nat) (hd : 2 ≤ d) (Q : Nat) (a0 : Int) (ha0 : ev_rng a0) (S : ev_St) (x : Int) (S' : ev_St) (hJ : jm_320 Q a0 S = some (x, S')) : ev_Ref d 320 [.ref 621, .int (Int32.ofInt a0)] S (ev_eI x) S' (ev_bl x) := by
  obtain ⟨d, rfl⟩ : ∃ e, d = e + 1 := ⟨d - 1, by omega⟩
  refine ev_ref_of (P := ev_bl) (lv := [(0, .ref 621), (1, .int (Int32.ofInt a0))]) (by decide +kernel) (by (try simp only [ev_sum, ev_nv_cat]); first | done | rfl) (by (try simp only [lv_args, ev_nv_cat]); first | done | rfl) ?_ x S' hJ
  unfold jm_320
  refine ev_r_iload_n (pc := 0) (k := 1) (v := Int32.ofInt a0) (by decide +kernel) (by rfl) ?_
  refine ev_r_iconst (pc := 1) (k := 0) (by decide +kernel) ?_
  refine ev_r_aload_n (pc := 2) (k := 0) (v := .ref 621) trivial (by decide +kernel) (by rfl) ?_
  refine ev_r_getI (pc := 3) (y := 707) (ci := 13) (f := 139) (fin := 0) (by decide +kernel) (by decide +kernel) (by exact ev_ob_621) rfl ?_
  intro x1 hx1
  refine ev_r_iconst (pc := 6) (k := 1) (by decide +kernel) ?_
  refine ev_r_isub (pc := 7) (by decide +kernel) ?_
  intro x2 hx2
  refine ev_r_stat (pc := 8) (y := 325) (kind := 2) (mi := 222) (na := 3) (as := [.int (Int32.ofInt a0), .int (Int32.ofInt 0), .int (Int32.ofInt x2)]) (rest := []) (encc := ev_oI) (Q := ev_bl) (fun x S1 h => jt_222 d (by omega) Q a0 0 x2 ha0 (by decide) hx2 S x S1 h) (Or.inl rfl) (by decide +kernel) (by decide +kernel) (by decide +kernel) (by decide +kernel) rfl (by (try simp only [ev_sum, ev_nv_cat]); first | done | rfl) ?_
  intro x4 s3 hx4
  replace hx4 := ev_bl_rng hx4
  show ev_w _ _ _ _ _ [.int (Int32.ofInt x4)] _ _ _ _
  refine ev_r_chk ?_
  intro c5
  exact ev_r_ireturn (pc := 11) (x := x4) (v := Int32.ofInt x4) (ty := .boolean) c5 (by decide +kernel) (by decide +kernel) (ev_ret_bl c5) rfl
/-- MendBenchModel.stream(IZ)I -/
def jm_321 (Q : Nat) (a0 : Int) (a1 : Int) (S : ev_St) : Option ((Int) × ev_St) := ev_b (ev_pI S 621 0 0) fun s1 => ev_bd (jm_273 Q a0 s1) fun x3 s2 => if x3 ≠ 0 then (ev_if ((0 : Int) ≤ a0 ∧ a0 < (ev_aln 639 : Int)) (ev_b (s2.1 639 (Int.toNat a0)) fun x5 => ev_jn (fun  (s8 : ev_St) => ev_bd (jm_221 Q 2 s8) fun x10 s9 => some (x10, s9)) fun K37 => if x5 < 2 then (K37  s2) else (ev_b (s2.1 621 139) fun x12 => if x12 ≠ 4 then (ev_b (s2.1 621 139) fun x14 => ev_if ((0 : Int) ≤ x14 ∧ x14 < (ev_aln 718 : Int)) (ev_b (ev_pI s2 718 (Int.toNat x14) a0) fun s15 => ev_b (s15.1 621 139) fun x16 => ev_if (ev_bl a1) (ev_if ((0 : Int) ≤ x16 ∧ x16 < (ev_aln 719 : Int)) (ev_b (ev_pI s15 719 (Int.toNat x16) a1) fun s17 => ev_b (s17.1 621 139) fun x19 => ev_ck (x19 + 1) fun x20 => ev_b (ev_pI s17 621 139 x20) fun s21 => ev_b (s21.1 621 139) fun x22 => ev_ck (x22 - 1) fun x23 => some (x23, s21))))) else (K37  s2)))) else (ev_bd (jm_221 Q 1 s2) fun x25 s24 => some (x25, s24))
theorem jt_321 (d : Nat) (hd : 3 ≤ d) (Q : Nat) (a0 : Int) (a1 : Int) (ha0 : ev_rng a0) (ha1 : ev_rng a1) (S : ev_St) (x : Int) (S' : ev_St) (hJ : jm_321 Q a0 a1 S = some (x, S')) : ev_Ref d 321 [.ref 621, .int (Int32.ofInt a0), .int (Int32.ofInt a1)] S (ev_eI x) S' (ev_rng x) := by
  obtain ⟨d, rfl⟩ : ∃ e, d = e + 1 := ⟨d - 1, by omega⟩
  refine ev_ref_of (P := ev_rng) (lv := [(0, .ref 621), (1, .int (Int32.ofInt a0)), (2, .int (Int32.ofInt a1))]) (by decide +kernel) (by (try simp only [ev_sum, ev_nv_cat]); first | done | rfl) (by (try simp only [lv_args, ev_nv_cat]); first | done | rfl) ?_ x S' hJ
  unfold jm_321
  refine ev_r_aload_n (pc := 0) (k := 0) (v := .ref 621) trivial (by decide +kernel) (by rfl) ?_
  refine ev_r_iconst (pc := 1) (k := 0) (by decide +kernel) ?_
  refine ev_r_putI (pc := 2) (y := 321) (ci := 13) (f := 0) (by decide) (by decide +kernel) (by decide +kernel) (by exact ev_ob_621) rfl rfl ?_
  intro s1
  refine ev_r_aload_n (pc := 5) (k := 0) (v := .ref 621) trivial (by decide +kernel) (by rfl) ?_
  refine ev_r_iload_n (pc := 6) (k := 1) (v := Int32.ofInt a0) (by decide +kernel) (by rfl) ?_
  refine ev_r_virt (pc := 7) (y := 531) (mi := 273) (na := 1) (k := 621) (as := [.int (Int32.ofInt a0)]) (rest := []) (encc := ev_oI) (Q := ev_bl) (fun x S1 h => jt_273 d (by omega) Q a0 ha0 s1 x S1 h) (by exact ev_ob_621) (by decide +kernel) (by decide +kernel) (by decide +kernel) (by decide +kernel) rfl (by (try simp only [ev_sum, ev_nv_cat]); first | done | rfl) ?_
  intro x3 s2 hx3
  replace hx3 := ev_bl_rng hx3
  show ev_w _ _ _ _ _ [.int (Int32.ofInt x3)] _ _ _ _
  refine ev_r_if (pc := 10) (q := .ne) (o := 9) (t := 19) (c := x3 ≠ 0) (by decide +kernel) (ev_k_ne hx3 ev_rng0) (by decide +kernel) ?_ ?_
  · intro c4
    refine ev_r_aload_n (pc := 19) (k := 0) (v := .ref 621) trivial (by decide +kernel) (by rfl) ?_
    refine ev_r_getC (pc := 20) (y := 62) (ci := 13) (f := 20) (fin := 1) (k' := 639) (by decide +kernel) (by decide +kernel) (by exact ev_ob_621) rfl rfl ?_
    refine ev_r_iload_n (pc := 23) (k := 1) (v := Int32.ofInt a0) (by decide +kernel) (by rfl) ?_
    refine ev_r_iald (pc := 24) ha0 (by decide +kernel) (by exact ev_ab_639) ?_
    intro x5 hx5
    refine ev_r_iconst (pc := 25) (k := 2) (by decide +kernel) ?_
    refine ev_r_jn (Q := fun K => ∀ (s8 : ev_St) (w6 : List (Nat × Value)), ev_lk w6 0 = some (.ref 621) → ev_w none (ev_Mof 321) d 37 w6 [] s8 (K  s8) ev_eI ev_rng) ?_ ?_
    · intro  s8 w6 e7
      refine ev_r_aload_n (pc := 37) (k := 0) (v := .ref 621) trivial (by decide +kernel) (by exact e7) ?_
      refine ev_r_iconst (pc := 38) (k := 2) (by decide +kernel) ?_
      refine ev_r_virt (pc := 39) (y := 342) (mi := 221) (na := 1) (k := 621) (as := [.int (Int32.ofInt 2)]) (rest := []) (encc := ev_oI) (Q := ev_rng) (fun x S1 h => jt_221 d (by omega) Q 2 (by decide) s8 x S1 h) (by exact ev_ob_621) (by decide +kernel) (by decide +kernel) (by decide +kernel) (by decide +kernel) rfl (by (try simp only [ev_sum, ev_nv_cat]); first | done | rfl) ?_
      intro x10 s9 hx10
      show ev_w _ _ _ _ _ [.int (Int32.ofInt x10)] _ _ _ _
      exact ev_r_ireturn (pc := 42) (x := x10) (v := Int32.ofInt x10) (ty := .int) hx10 (by decide +kernel) (by decide +kernel) rfl rfl
    · intro K37 hK37
      refine ev_r_icmp (pc := 26) (q := .lt) (o := 11) (t := 37) (c := x5 < 2) (by decide +kernel) (ev_k_lt hx5 (by decide)) (by decide +kernel) ?_ ?_
      · intro c11
        exact hK37  s2 _ (by rfl)
      · intro c11
        refine ev_r_aload_n (pc := 29) (k := 0) (v := .ref 621) trivial (by decide +kernel) (by rfl) ?_
        refine ev_r_getI (pc := 30) (y := 707) (ci := 13) (f := 139) (fin := 0) (by decide +kernel) (by decide +kernel) (by exact ev_ob_621) rfl ?_
        intro x12 hx12
        refine ev_r_iconst (pc := 33) (k := 4) (by decide +kernel) ?_
        refine ev_r_icmp (pc := 34) (q := .ne) (o := 9) (t := 43) (c := x12 ≠ 4) (by decide +kernel) (ev_k_ne hx12 (by decide)) (by decide +kernel) ?_ ?_
        · intro c13
          refine ev_r_aload_n (pc := 43) (k := 0) (v := .ref 621) trivial (by decide +kernel) (by rfl) ?_
          refine ev_r_getC (pc := 44) (y := 306) (ci := 13) (f := 140) (fin := 1) (k' := 718) (by decide +kernel) (by decide +kernel) (by exact ev_ob_621) rfl rfl ?_
          refine ev_r_aload_n (pc := 47) (k := 0) (v := .ref 621) trivial (by decide +kernel) (by rfl) ?_
          refine ev_r_getI (pc := 48) (y := 707) (ci := 13) (f := 139) (fin := 0) (by decide +kernel) (by decide +kernel) (by exact ev_ob_621) rfl ?_
          intro x14 hx14
          refine ev_r_iload_n (pc := 51) (k := 1) (v := Int32.ofInt a0) (by decide +kernel) (by rfl) ?_
          refine ev_r_iast (pc := 52) ha0 hx14 (by decide +kernel) (by exact ev_ab_718) ?_
          intro s15
          refine ev_r_aload_n (pc := 53) (k := 0) (v := .ref 621) trivial (by decide +kernel) (by rfl) ?_
          refine ev_r_getC (pc := 54) (y := 309) (ci := 13) (f := 141) (fin := 1) (k' := 719) (by decide +kernel) (by decide +kernel) (by exact ev_ob_621) rfl rfl ?_
          refine ev_r_aload_n (pc := 57) (k := 0) (v := .ref 621) trivial (by decide +kernel) (by rfl) ?_
          refine ev_r_getI (pc := 58) (y := 707) (ci := 13) (f := 139) (fin := 0) (by decide +kernel) (by decide +kernel) (by exact ev_ob_621) rfl ?_
          intro x16 hx16
          refine ev_r_iload_n (pc := 61) (k := 2) (v := Int32.ofInt a1) (by decide +kernel) (by rfl) ?_
          refine ev_r_chk ?_
          intro c18
          refine ev_r_bast (pc := 62) (ty := .boolean) (Or.inr rfl) (ev_nar_bl c18) ha1 hx16 (by decide +kernel) (by exact ev_ab_719) ?_
          intro s17
          refine ev_r_aload_n (pc := 63) (k := 0) (v := .ref 621) trivial (by decide +kernel) (by rfl) ?_
          refine ev_r_dup (pc := 64) rfl (by decide +kernel) ?_
          refine ev_r_getI (pc := 65) (y := 707) (ci := 13) (f := 139) (fin := 0) (by decide +kernel) (by decide +kernel) (by exact ev_ob_621) rfl ?_
          intro x19 hx19
          refine ev_r_iconst (pc := 68) (k := 1) (by decide +kernel) ?_
          refine ev_r_iadd (pc := 69) (by decide +kernel) ?_
          intro x20 hx20
          refine ev_r_putI (pc := 70) (y := 707) (ci := 13) (f := 139) hx20 (by decide +kernel) (by decide +kernel) (by exact ev_ob_621) rfl rfl ?_
          intro s21
          refine ev_r_aload_n (pc := 73) (k := 0) (v := .ref 621) trivial (by decide +kernel) (by rfl) ?_
          refine ev_r_getI (pc := 74) (y := 707) (ci := 13) (f := 139) (fin := 0) (by decide +kernel) (by decide +kernel) (by exact ev_ob_621) rfl ?_
          intro x22 hx22
          refine ev_r_iconst (pc := 77) (k := 1) (by decide +kernel) ?_
          refine ev_r_isub (pc := 78) (by decide +kernel) ?_
          intro x23 hx23
          exact ev_r_ireturn (pc := 79) (x := x23) (v := Int32.ofInt x23) (ty := .int) hx23 (by decide +kernel) (by decide +kernel) rfl rfl
        · intro c13
          exact hK37  s2 _ (by rfl)
  · intro c4
    refine ev_r_aload_n (pc := 13) (k := 0) (v := .ref 621) trivial (by decide +kernel) (by rfl) ?_
    refine ev_r_iconst (pc := 14) (k := 1) (by decide +kernel) ?_
    refine ev_r_virt (pc := 15) (y := 342) (mi := 221) (na := 1) (k := 621) (as := [.int (Int32.ofInt 1)]) (rest := []) (encc := ev_oI) (Q := ev_rng) (fun x S1 h => jt_221 d (by omega) Q 1 (by decide) s2 x S1 h) (by exact ev_ob_621) (by decide +kernel) (by decide +kernel) (by decide +kernel) (by decide +kernel) rfl (by (try simp only [ev_sum, ev_nv_cat]); first | done | rfl) ?_
    intro x25 s24 hx25
    show ev_w _ _ _ _ _ [.int (Int32.ofInt x25)] _ _ _ _
    exact ev_r_ireturn (pc := 18) (x := x25) (v := Int32.ofInt x25) (ty := .int) hx25 (by decide +kernel) (by decide +kernel) rfl rfl
def jb_322_52 (Q : Nat) (a0 : Int)  (K52 : Int → ev_St → Option ((Int) × ev_St)) (x16 : Int) (s21 : ev_St) : Option ((Int) × ev_St) := ev_b (s21.1 621 1) fun x22 => if x22 ≤ x16 then (ev_b (ev_pI s21 621 1 0) fun s24 => ev_bd (jm_319 Q a0 s24) fun x26 s25 => some (x26, s25)) else (ev_ck (80 * a0) fun x27 => ev_if ((0 : Int) ≤ a0 ∧ a0 < (ev_aln 721 : Int)) (ev_b (s21.1 721 (Int.toNat a0)) fun x28 => ev_ck (x27 + x28) fun x29 => ev_if ((0 : Int) ≤ x16 ∧ x16 < (ev_aln 622 : Int)) (ev_b (s21.1 622 (Int.toNat x16)) fun x30 => ev_if ((0 : Int) ≤ x29 ∧ x29 < (ev_aln 722 : Int)) (ev_b (ev_pI s21 722 (Int.toNat x29) x30) fun s31 => ev_if ((0 : Int) ≤ a0 ∧ a0 < (ev_aln 721 : Int)) (ev_b (s31.1 721 (Int.toNat a0)) fun x32 => ev_ck (x32 + 1) fun x33 => ev_if ((0 : Int) ≤ a0 ∧ a0 < (ev_aln 721 : Int)) (ev_b (ev_pI s31 721 (Int.toNat a0) x33) fun s34 => ev_ck (x16 + 1) fun x35 => K52 x35 s34))))))
def jl_322_52 (Q : Nat) (a0 : Int)  : Nat → Int → ev_St → Option ((Int) × ev_St)
  | 0 => fun _ _ => none
  | q + 1 => jb_322_52 Q a0  (jl_322_52 Q a0  q)
theorem jbt_322_52 (d : Nat) (hd : 5 ≤ d + 1) (Q : Nat) (a0 : Int) (ha0 : ev_rng a0)   (K52 : Int → ev_St → Option ((Int) × ev_St)) (hK52 : ∀ (x16 : Int) (hx16 : ev_rng x16), ∀ (s21 : ev_St) (w17 : List (Nat × Value)), ev_lk w17 0 = some (.ref 621) → ev_lk w17 1 = some (.int (Int32.ofInt a0)) → ev_lk w17 2 = some (.int (Int32.ofInt x16)) → ev_w none (ev_Mof 322) d 52 w17 [] s21 (K52 x16 s21) ev_eI ev_rng) : ∀ (x16 : Int) (hx16 : ev_rng x16), ∀ (s21 : ev_St) (w17 : List (Nat × Value)), ev_lk w17 0 = some (.ref 621) → ev_lk w17 1 = some (.int (Int32.ofInt a0)) → ev_lk w17 2 = some (.int (Int32.ofInt x16)) → ev_w none (ev_Mof 322) d 52 w17 [] s21 (jb_322_52 Q a0  K52 x16 s21) ev_eI ev_rng := by
  intro x16 hx16 s21 w17 e18 e19 e20
  unfold jb_322_52
  refine ev_r_iload_n (pc := 52) (k := 2) (v := Int32.ofInt x16) (by decide +kernel) (by exact e20) ?_
  refine ev_r_aload_n (pc := 53) (k := 0) (v := .ref 621) trivial (by decide +kernel) (by exact e18) ?_
  refine ev_r_getI (pc := 54) (y := 346) (ci := 13) (f := 1) (fin := 0) (by decide +kernel) (by decide +kernel) (by exact ev_ob_621) rfl ?_
  intro x22 hx22
  refine ev_r_icmp (pc := 57) (q := .ge) (o := 41) (t := 98) (c := x22 ≤ x16) (by decide +kernel) (ev_k_ge hx16 hx22) (by decide +kernel) ?_ ?_
  · intro c23
    refine ev_r_aload_n (pc := 98) (k := 0) (v := .ref 621) trivial (by decide +kernel) (by exact e18) ?_
    refine ev_r_iconst (pc := 99) (k := 0) (by decide +kernel) ?_
    refine ev_r_putI (pc := 100) (y := 346) (ci := 13) (f := 1) (by decide) (by decide +kernel) (by decide +kernel) (by exact ev_ob_621) rfl rfl ?_
    intro s24
    refine ev_r_aload_n (pc := 103) (k := 0) (v := .ref 621) trivial (by decide +kernel) (by exact e18) ?_
    refine ev_r_iload_n (pc := 104) (k := 1) (v := Int32.ofInt a0) (by decide +kernel) (by exact e19) ?_
    refine ev_r_virt (pc := 105) (y := 713) (mi := 319) (na := 1) (k := 621) (as := [.int (Int32.ofInt a0)]) (rest := []) (encc := ev_oI) (Q := ev_rng) (fun x S1 h => jt_319 d (by omega) Q a0 ha0 s24 x S1 h) (by exact ev_ob_621) (by decide +kernel) (by decide +kernel) (by decide +kernel) (by decide +kernel) rfl (by (try simp only [ev_sum, ev_nv_cat]); first | done | rfl) ?_
    intro x26 s25 hx26
    show ev_w _ _ _ _ _ [.int (Int32.ofInt x26)] _ _ _ _
    exact ev_r_ireturn (pc := 108) (x := x26) (v := Int32.ofInt x26) (ty := .int) hx26 (by decide +kernel) (by decide +kernel) rfl rfl
  · intro c23
    refine ev_r_aload_n (pc := 60) (k := 0) (v := .ref 621) trivial (by decide +kernel) (by exact e18) ?_
    refine ev_r_getC (pc := 61) (y := 318) (ci := 13) (f := 144) (fin := 1) (k' := 722) (by decide +kernel) (by decide +kernel) (by exact ev_ob_621) rfl rfl ?_
    refine ev_r_bipush (pc := 64) (k := 80) (by decide +kernel) (by decide +kernel) ?_
    refine ev_r_iload_n (pc := 66) (k := 1) (v := Int32.ofInt a0) (by decide +kernel) (by exact e19) ?_
    refine ev_r_imul (pc := 67) (by decide +kernel) ?_
    intro x27 hx27
    refine ev_r_aload_n (pc := 68) (k := 0) (v := .ref 621) trivial (by decide +kernel) (by exact e18) ?_
    refine ev_r_getC (pc := 69) (y := 315) (ci := 13) (f := 143) (fin := 1) (k' := 721) (by decide +kernel) (by decide +kernel) (by exact ev_ob_621) rfl rfl ?_
    refine ev_r_iload_n (pc := 72) (k := 1) (v := Int32.ofInt a0) (by decide +kernel) (by exact e19) ?_
    refine ev_r_iald (pc := 73) ha0 (by decide +kernel) (by exact ev_ab_721) ?_
    intro x28 hx28
    refine ev_r_iadd (pc := 74) (by decide +kernel) ?_
    intro x29 hx29
    refine ev_r_aload_n (pc := 75) (k := 0) (v := .ref 621) trivial (by decide +kernel) (by exact e18) ?_
    refine ev_r_getC (pc := 76) (y := 7) (ci := 13) (f := 2) (fin := 1) (k' := 622) (by decide +kernel) (by decide +kernel) (by exact ev_ob_621) rfl rfl ?_
    refine ev_r_iload_n (pc := 79) (k := 2) (v := Int32.ofInt x16) (by decide +kernel) (by exact e20) ?_
    refine ev_r_iald (pc := 80) hx16 (by decide +kernel) (by exact ev_ab_622) ?_
    intro x30 hx30
    refine ev_r_iast (pc := 81) hx30 hx29 (by decide +kernel) (by exact ev_ab_722) ?_
    intro s31
    refine ev_r_aload_n (pc := 82) (k := 0) (v := .ref 621) trivial (by decide +kernel) (by exact e18) ?_
    refine ev_r_getC (pc := 83) (y := 315) (ci := 13) (f := 143) (fin := 1) (k' := 721) (by decide +kernel) (by decide +kernel) (by exact ev_ob_621) rfl rfl ?_
    refine ev_r_iload_n (pc := 86) (k := 1) (v := Int32.ofInt a0) (by decide +kernel) (by exact e19) ?_
    refine ev_r_dup2 (pc := 87) rfl rfl (by decide +kernel) ?_
    refine ev_r_iald (pc := 88) ha0 (by decide +kernel) (by exact ev_ab_721) ?_
    intro x32 hx32
    refine ev_r_iconst (pc := 89) (k := 1) (by decide +kernel) ?_
    refine ev_r_iadd (pc := 90) (by decide +kernel) ?_
    intro x33 hx33
    refine ev_r_iast (pc := 91) hx33 ha0 (by decide +kernel) (by exact ev_ab_721) ?_
    intro s34
    refine ev_r_iinc (pc := 92) (k := 2) (c := 1) (x := x16) (by decide +kernel) (by decide +kernel) (by exact e20) (fun _ => rfl) ?_
    intro x35 hx35
    refine ev_r_goto (pc := 95) (o := (-43)) (t := 52) (by decide +kernel) (by decide +kernel) ?_
    exact hK52 x35 hx35 s34 _ (by exact (ev_l1 e18 (by decide) (by decide))) (by exact (ev_lk_st1 e19 (by decide) rfl)) (by exact ev_lk_st1_self)
theorem jlt_322_52 (d : Nat) (hd : 5 ≤ d + 1) (Q : Nat) (a0 : Int) (ha0 : ev_rng a0)   : ∀ q : Nat, ∀ (x16 : Int) (hx16 : ev_rng x16), ∀ (s21 : ev_St) (w17 : List (Nat × Value)), ev_lk w17 0 = some (.ref 621) → ev_lk w17 1 = some (.int (Int32.ofInt a0)) → ev_lk w17 2 = some (.int (Int32.ofInt x16)) → ev_w none (ev_Mof 322) d 52 w17 [] s21 (jl_322_52 Q a0  q x16 s21) ev_eI ev_rng := by
  intro q
  induction q with
  | zero =>
    intro x16 hx16 s21 w17 e18 e19 e20
    exact ev_w_none
  | succ q ih => exact jbt_322_52 d hd Q a0 ha0   _ ih
/-- MendBenchModel.feed(I)I -/
def jm_322 (Q : Nat) (a0 : Int) (S : ev_St) : Option ((Int) × ev_St) := ev_b (ev_pI S 621 0 0) fun s1 => ev_bd (jm_320 Q a0 s1) fun x3 s2 => if x3 ≠ 0 then (ev_if ((0 : Int) ≤ a0 ∧ a0 < (ev_aln 720 : Int)) (ev_b (s2.1 720 (Int.toNat a0)) fun x5 => ev_jn (fun  (s8 : ev_St) => ev_bd (jm_221 Q 2 s8) fun x10 s9 => some (x10, s9)) fun K44 => if x5 ≠ 0 then (K44  s2) else (ev_if ((0 : Int) ≤ a0 ∧ a0 < (ev_aln 721 : Int)) (ev_b (s2.1 721 (Int.toNat a0)) fun x12 => ev_b (s2.1 621 1) fun x13 => ev_ck (x12 + x13) fun x14 => if x14 ≤ 80 then (jl_322_52 Q a0  Q 0 s2) else (K44  s2))))) else (ev_bd (jm_221 Q 1 s2) fun x37 s36 => some (x37, s36))
theorem jt_322 (d : Nat) (hd : 5 ≤ d) (Q : Nat) (a0 : Int) (ha0 : ev_rng a0) (S : ev_St) (x : Int) (S' : ev_St) (hJ : jm_322 Q a0 S = some (x, S')) : ev_Ref d 322 [.ref 621, .int (Int32.ofInt a0)] S (ev_eI x) S' (ev_rng x) := by
  obtain ⟨d, rfl⟩ : ∃ e, d = e + 1 := ⟨d - 1, by omega⟩
  refine ev_ref_of (P := ev_rng) (lv := [(0, .ref 621), (1, .int (Int32.ofInt a0))]) (by decide +kernel) (by (try simp only [ev_sum, ev_nv_cat]); first | done | rfl) (by (try simp only [lv_args, ev_nv_cat]); first | done | rfl) ?_ x S' hJ
  unfold jm_322
  refine ev_r_aload_n (pc := 0) (k := 0) (v := .ref 621) trivial (by decide +kernel) (by rfl) ?_
  refine ev_r_iconst (pc := 1) (k := 0) (by decide +kernel) ?_
  refine ev_r_putI (pc := 2) (y := 321) (ci := 13) (f := 0) (by decide) (by decide +kernel) (by decide +kernel) (by exact ev_ob_621) rfl rfl ?_
  intro s1
  refine ev_r_aload_n (pc := 5) (k := 0) (v := .ref 621) trivial (by decide +kernel) (by rfl) ?_
  refine ev_r_iload_n (pc := 6) (k := 1) (v := Int32.ofInt a0) (by decide +kernel) (by rfl) ?_
  refine ev_r_virt (pc := 7) (y := 710) (mi := 320) (na := 1) (k := 621) (as := [.int (Int32.ofInt a0)]) (rest := []) (encc := ev_oI) (Q := ev_bl) (fun x S1 h => jt_320 d (by omega) Q a0 ha0 s1 x S1 h) (by exact ev_ob_621) (by decide +kernel) (by decide +kernel) (by decide +kernel) (by decide +kernel) rfl (by (try simp only [ev_sum, ev_nv_cat]); first | done | rfl) ?_
  intro x3 s2 hx3
  replace hx3 := ev_bl_rng hx3
  show ev_w _ _ _ _ _ [.int (Int32.ofInt x3)] _ _ _ _
  refine ev_r_if (pc := 10) (q := .ne) (o := 9) (t := 19) (c := x3 ≠ 0) (by decide +kernel) (ev_k_ne hx3 ev_rng0) (by decide +kernel) ?_ ?_
  · intro c4
    refine ev_r_aload_n (pc := 19) (k := 0) (v := .ref 621) trivial (by decide +kernel) (by rfl) ?_
    refine ev_r_getC (pc := 20) (y := 312) (ci := 13) (f := 142) (fin := 1) (k' := 720) (by decide +kernel) (by decide +kernel) (by exact ev_ob_621) rfl rfl ?_
    refine ev_r_iload_n (pc := 23) (k := 1) (v := Int32.ofInt a0) (by decide +kernel) (by rfl) ?_
    refine ev_r_bald (pc := 24) (ty := .boolean) (Or.inr rfl) ha0 (by decide +kernel) (by exact ev_ab_720) ?_
    intro x5 hx5
    refine ev_r_jn (Q := fun K => ∀ (s8 : ev_St) (w6 : List (Nat × Value)), ev_lk w6 0 = some (.ref 621) → ev_w none (ev_Mof 322) d 44 w6 [] s8 (K  s8) ev_eI ev_rng) ?_ ?_
    · intro  s8 w6 e7
      refine ev_r_aload_n (pc := 44) (k := 0) (v := .ref 621) trivial (by decide +kernel) (by exact e7) ?_
      refine ev_r_iconst (pc := 45) (k := 2) (by decide +kernel) ?_
      refine ev_r_virt (pc := 46) (y := 342) (mi := 221) (na := 1) (k := 621) (as := [.int (Int32.ofInt 2)]) (rest := []) (encc := ev_oI) (Q := ev_rng) (fun x S1 h => jt_221 d (by omega) Q 2 (by decide) s8 x S1 h) (by exact ev_ob_621) (by decide +kernel) (by decide +kernel) (by decide +kernel) (by decide +kernel) rfl (by (try simp only [ev_sum, ev_nv_cat]); first | done | rfl) ?_
      intro x10 s9 hx10
      show ev_w _ _ _ _ _ [.int (Int32.ofInt x10)] _ _ _ _
      exact ev_r_ireturn (pc := 49) (x := x10) (v := Int32.ofInt x10) (ty := .int) hx10 (by decide +kernel) (by decide +kernel) rfl rfl
    · intro K44 hK44
      refine ev_r_if (pc := 25) (q := .ne) (o := 19) (t := 44) (c := x5 ≠ 0) (by decide +kernel) (ev_k_ne hx5 ev_rng0) (by decide +kernel) ?_ ?_
      · intro c11
        exact hK44  s2 _ (by rfl)
      · intro c11
        refine ev_r_aload_n (pc := 28) (k := 0) (v := .ref 621) trivial (by decide +kernel) (by rfl) ?_
        refine ev_r_getC (pc := 29) (y := 315) (ci := 13) (f := 143) (fin := 1) (k' := 721) (by decide +kernel) (by decide +kernel) (by exact ev_ob_621) rfl rfl ?_
        refine ev_r_iload_n (pc := 32) (k := 1) (v := Int32.ofInt a0) (by decide +kernel) (by rfl) ?_
        refine ev_r_iald (pc := 33) ha0 (by decide +kernel) (by exact ev_ab_721) ?_
        intro x12 hx12
        refine ev_r_aload_n (pc := 34) (k := 0) (v := .ref 621) trivial (by decide +kernel) (by rfl) ?_
        refine ev_r_getI (pc := 35) (y := 346) (ci := 13) (f := 1) (fin := 0) (by decide +kernel) (by decide +kernel) (by exact ev_ob_621) rfl ?_
        intro x13 hx13
        refine ev_r_iadd (pc := 38) (by decide +kernel) ?_
        intro x14 hx14
        refine ev_r_bipush (pc := 39) (k := 80) (by decide +kernel) (by decide +kernel) ?_
        refine ev_r_icmp (pc := 41) (q := .le) (o := 9) (t := 50) (c := x14 ≤ 80) (by decide +kernel) (ev_k_le hx14 (by decide)) (by decide +kernel) ?_ ?_
        · intro c15
          refine ev_r_iconst (pc := 50) (k := 0) (by decide +kernel) ?_
          refine ev_r_istore_n (pc := 51) (k := 2) (by decide +kernel) (by decide +kernel) rfl ?_
          exact jlt_322_52 d hd Q a0 ha0   Q 0 (by decide) s2 _ (by exact (ev_l1 (by rfl) (by decide) (by decide))) (by exact (ev_lk_st1 (by rfl) (by decide) rfl)) (by exact ev_lk_st1_self)
        · intro c15
          exact hK44  s2 _ (by rfl)
  · intro c4
    refine ev_r_aload_n (pc := 13) (k := 0) (v := .ref 621) trivial (by decide +kernel) (by rfl) ?_
    refine ev_r_iconst (pc := 14) (k := 1) (by decide +kernel) ?_
    refine ev_r_virt (pc := 15) (y := 342) (mi := 221) (na := 1) (k := 621) (as := [.int (Int32.ofInt 1)]) (rest := []) (encc := ev_oI) (Q := ev_rng) (fun x S1 h => jt_221 d (by omega) Q 1 (by decide) s2 x S1 h) (by exact ev_ob_621) (by decide +kernel) (by decide +kernel) (by decide +kernel) (by decide +kernel) rfl (by (try simp only [ev_sum, ev_nv_cat]); first | done | rfl) ?_
    intro x37 s36 hx37
    show ev_w _ _ _ _ _ [.int (Int32.ofInt x37)] _ _ _ _
    exact ev_r_ireturn (pc := 18) (x := x37) (v := Int32.ofInt x37) (ty := .int) hx37 (by decide +kernel) (by decide +kernel) rfl rfl
/-- MendBenchModel.finish(I)I -/
def jm_323 (Q : Nat) (a0 : Int) (S : ev_St) : Option ((Int) × ev_St) := ev_b (ev_pI S 621 0 0) fun s1 => ev_bd (jm_320 Q a0 s1) fun x3 s2 => if x3 ≠ 0 then (ev_if ((0 : Int) ≤ a0 ∧ a0 < (ev_aln 720 : Int)) (ev_b (s2.1 720 (Int.toNat a0)) fun x5 => if x5 = 0 then (ev_if ((0 : Int) ≤ a0 ∧ a0 < (ev_aln 720 : Int)) (ev_b (ev_pI s2 720 (Int.toNat a0) 1) fun s7 => ev_bd (jm_319 Q a0 s7) fun x9 s8 => some (x9, s8))) else (ev_bd (jm_221 Q 2 s2) fun x11 s10 => some (x11, s10)))) else (ev_bd (jm_221 Q 1 s2) fun x13 s12 => some (x13, s12))
theorem jt_323 (d : Nat) (hd : 5 ≤ d) (Q : Nat) (a0 : Int) (ha0 : ev_rng a0) (S : ev_St) (x : Int) (S' : ev_St) (hJ : jm_323 Q a0 S = some (x, S')) : ev_Ref d 323 [.ref 621, .int (Int32.ofInt a0)] S (ev_eI x) S' (ev_rng x) := by
  obtain ⟨d, rfl⟩ : ∃ e, d = e + 1 := ⟨d - 1, by omega⟩
  refine ev_ref_of (P := ev_rng) (lv := [(0, .ref 621), (1, .int (Int32.ofInt a0))]) (by decide +kernel) (by (try simp only [ev_sum, ev_nv_cat]); first | done | rfl) (by (try simp only [lv_args, ev_nv_cat]); first | done | rfl) ?_ x S' hJ
  unfold jm_323
  refine ev_r_aload_n (pc := 0) (k := 0) (v := .ref 621) trivial (by decide +kernel) (by rfl) ?_
  refine ev_r_iconst (pc := 1) (k := 0) (by decide +kernel) ?_
  refine ev_r_putI (pc := 2) (y := 321) (ci := 13) (f := 0) (by decide) (by decide +kernel) (by decide +kernel) (by exact ev_ob_621) rfl rfl ?_
  intro s1
  refine ev_r_aload_n (pc := 5) (k := 0) (v := .ref 621) trivial (by decide +kernel) (by rfl) ?_
  refine ev_r_iload_n (pc := 6) (k := 1) (v := Int32.ofInt a0) (by decide +kernel) (by rfl) ?_
  refine ev_r_virt (pc := 7) (y := 710) (mi := 320) (na := 1) (k := 621) (as := [.int (Int32.ofInt a0)]) (rest := []) (encc := ev_oI) (Q := ev_bl) (fun x S1 h => jt_320 d (by omega) Q a0 ha0 s1 x S1 h) (by exact ev_ob_621) (by decide +kernel) (by decide +kernel) (by decide +kernel) (by decide +kernel) rfl (by (try simp only [ev_sum, ev_nv_cat]); first | done | rfl) ?_
  intro x3 s2 hx3
  replace hx3 := ev_bl_rng hx3
  show ev_w _ _ _ _ _ [.int (Int32.ofInt x3)] _ _ _ _
  refine ev_r_if (pc := 10) (q := .ne) (o := 9) (t := 19) (c := x3 ≠ 0) (by decide +kernel) (ev_k_ne hx3 ev_rng0) (by decide +kernel) ?_ ?_
  · intro c4
    refine ev_r_aload_n (pc := 19) (k := 0) (v := .ref 621) trivial (by decide +kernel) (by rfl) ?_
    refine ev_r_getC (pc := 20) (y := 312) (ci := 13) (f := 142) (fin := 1) (k' := 720) (by decide +kernel) (by decide +kernel) (by exact ev_ob_621) rfl rfl ?_
    refine ev_r_iload_n (pc := 23) (k := 1) (v := Int32.ofInt a0) (by decide +kernel) (by rfl) ?_
    refine ev_r_bald (pc := 24) (ty := .boolean) (Or.inr rfl) ha0 (by decide +kernel) (by exact ev_ab_720) ?_
    intro x5 hx5
    refine ev_r_if (pc := 25) (q := .eq) (o := 9) (t := 34) (c := x5 = 0) (by decide +kernel) (ev_k_eq hx5 ev_rng0) (by decide +kernel) ?_ ?_
    · intro c6
      refine ev_r_aload_n (pc := 34) (k := 0) (v := .ref 621) trivial (by decide +kernel) (by rfl) ?_
      refine ev_r_getC (pc := 35) (y := 312) (ci := 13) (f := 142) (fin := 1) (k' := 720) (by decide +kernel) (by decide +kernel) (by exact ev_ob_621) rfl rfl ?_
      refine ev_r_iload_n (pc := 38) (k := 1) (v := Int32.ofInt a0) (by decide +kernel) (by rfl) ?_
      refine ev_r_iconst (pc := 39) (k := 1) (by decide +kernel) ?_
      refine ev_r_bast (pc := 40) (ty := .boolean) (Or.inr rfl) (ev_nar_bl (by decide : ev_bl 1)) (by decide) ha0 (by decide +kernel) (by exact ev_ab_720) ?_
      intro s7
      refine ev_r_aload_n (pc := 41) (k := 0) (v := .ref 621) trivial (by decide +kernel) (by rfl) ?_
      refine ev_r_iload_n (pc := 42) (k := 1) (v := Int32.ofInt a0) (by decide +kernel) (by rfl) ?_
      refine ev_r_virt (pc := 43) (y := 713) (mi := 319) (na := 1) (k := 621) (as := [.int (Int32.ofInt a0)]) (rest := []) (encc := ev_oI) (Q := ev_rng) (fun x S1 h => jt_319 d (by omega) Q a0 ha0 s7 x S1 h) (by exact ev_ob_621) (by decide +kernel) (by decide +kernel) (by decide +kernel) (by decide +kernel) rfl (by (try simp only [ev_sum, ev_nv_cat]); first | done | rfl) ?_
      intro x9 s8 hx9
      show ev_w _ _ _ _ _ [.int (Int32.ofInt x9)] _ _ _ _
      exact ev_r_ireturn (pc := 46) (x := x9) (v := Int32.ofInt x9) (ty := .int) hx9 (by decide +kernel) (by decide +kernel) rfl rfl
    · intro c6
      refine ev_r_aload_n (pc := 28) (k := 0) (v := .ref 621) trivial (by decide +kernel) (by rfl) ?_
      refine ev_r_iconst (pc := 29) (k := 2) (by decide +kernel) ?_
      refine ev_r_virt (pc := 30) (y := 342) (mi := 221) (na := 1) (k := 621) (as := [.int (Int32.ofInt 2)]) (rest := []) (encc := ev_oI) (Q := ev_rng) (fun x S1 h => jt_221 d (by omega) Q 2 (by decide) s2 x S1 h) (by exact ev_ob_621) (by decide +kernel) (by decide +kernel) (by decide +kernel) (by decide +kernel) rfl (by (try simp only [ev_sum, ev_nv_cat]); first | done | rfl) ?_
      intro x11 s10 hx11
      show ev_w _ _ _ _ _ [.int (Int32.ofInt x11)] _ _ _ _
      exact ev_r_ireturn (pc := 33) (x := x11) (v := Int32.ofInt x11) (ty := .int) hx11 (by decide +kernel) (by decide +kernel) rfl rfl
  · intro c4
    refine ev_r_aload_n (pc := 13) (k := 0) (v := .ref 621) trivial (by decide +kernel) (by rfl) ?_
    refine ev_r_iconst (pc := 14) (k := 1) (by decide +kernel) ?_
    refine ev_r_virt (pc := 15) (y := 342) (mi := 221) (na := 1) (k := 621) (as := [.int (Int32.ofInt 1)]) (rest := []) (encc := ev_oI) (Q := ev_rng) (fun x S1 h => jt_221 d (by omega) Q 1 (by decide) s2 x S1 h) (by exact ev_ob_621) (by decide +kernel) (by decide +kernel) (by decide +kernel) (by decide +kernel) rfl (by (try simp only [ev_sum, ev_nv_cat]); first | done | rfl) ?_
    intro x13 s12 hx13
    show ev_w _ _ _ _ _ [.int (Int32.ofInt x13)] _ _ _ _
    exact ev_r_ireturn (pc := 18) (x := x13) (v := Int32.ofInt x13) (ty := .int) hx13 (by decide +kernel) (by decide +kernel) rfl rfl
/-- MendBenchModel.told(I)I -/
def jm_324 (Q : Nat) (a0 : Int) (S : ev_St) : Option ((Int) × ev_St) := ev_b (ev_pI S 621 0 0) fun s1 => ev_bd (jm_320 Q a0 s1) fun x3 s2 => if x3 = 0 then (ev_bd (jm_221 Q 1 s2) fun x6 s5 => some (x6, s5)) else (ev_bd (jm_319 Q a0 s2) fun x8 s7 => some (x8, s7))
theorem jt_324 (d : Nat) (hd : 5 ≤ d) (Q : Nat) (a0 : Int) (ha0 : ev_rng a0) (S : ev_St) (x : Int) (S' : ev_St) (hJ : jm_324 Q a0 S = some (x, S')) : ev_Ref d 324 [.ref 621, .int (Int32.ofInt a0)] S (ev_eI x) S' (ev_rng x) := by
  obtain ⟨d, rfl⟩ : ∃ e, d = e + 1 := ⟨d - 1, by omega⟩
  refine ev_ref_of (P := ev_rng) (lv := [(0, .ref 621), (1, .int (Int32.ofInt a0))]) (by decide +kernel) (by (try simp only [ev_sum, ev_nv_cat]); first | done | rfl) (by (try simp only [lv_args, ev_nv_cat]); first | done | rfl) ?_ x S' hJ
  unfold jm_324
  refine ev_r_aload_n (pc := 0) (k := 0) (v := .ref 621) trivial (by decide +kernel) (by rfl) ?_
  refine ev_r_iconst (pc := 1) (k := 0) (by decide +kernel) ?_
  refine ev_r_putI (pc := 2) (y := 321) (ci := 13) (f := 0) (by decide) (by decide +kernel) (by decide +kernel) (by exact ev_ob_621) rfl rfl ?_
  intro s1
  refine ev_r_aload_n (pc := 5) (k := 0) (v := .ref 621) trivial (by decide +kernel) (by rfl) ?_
  refine ev_r_iload_n (pc := 6) (k := 1) (v := Int32.ofInt a0) (by decide +kernel) (by rfl) ?_
  refine ev_r_virt (pc := 7) (y := 710) (mi := 320) (na := 1) (k := 621) (as := [.int (Int32.ofInt a0)]) (rest := []) (encc := ev_oI) (Q := ev_bl) (fun x S1 h => jt_320 d (by omega) Q a0 ha0 s1 x S1 h) (by exact ev_ob_621) (by decide +kernel) (by decide +kernel) (by decide +kernel) (by decide +kernel) rfl (by (try simp only [ev_sum, ev_nv_cat]); first | done | rfl) ?_
  intro x3 s2 hx3
  replace hx3 := ev_bl_rng hx3
  show ev_w _ _ _ _ _ [.int (Int32.ofInt x3)] _ _ _ _
  refine ev_r_if (pc := 10) (q := .eq) (o := 11) (t := 21) (c := x3 = 0) (by decide +kernel) (ev_k_eq hx3 ev_rng0) (by decide +kernel) ?_ ?_
  · intro c4
    refine ev_r_aload_n (pc := 21) (k := 0) (v := .ref 621) trivial (by decide +kernel) (by rfl) ?_
    refine ev_r_iconst (pc := 22) (k := 1) (by decide +kernel) ?_
    refine ev_r_virt (pc := 23) (y := 342) (mi := 221) (na := 1) (k := 621) (as := [.int (Int32.ofInt 1)]) (rest := []) (encc := ev_oI) (Q := ev_rng) (fun x S1 h => jt_221 d (by omega) Q 1 (by decide) s2 x S1 h) (by exact ev_ob_621) (by decide +kernel) (by decide +kernel) (by decide +kernel) (by decide +kernel) rfl (by (try simp only [ev_sum, ev_nv_cat]); first | done | rfl) ?_
    intro x6 s5 hx6
    show ev_w _ _ _ _ _ [.int (Int32.ofInt x6)] _ _ _ _
    exact ev_r_ireturn (pc := 26) (x := x6) (v := Int32.ofInt x6) (ty := .int) hx6 (by decide +kernel) (by decide +kernel) rfl rfl
  · intro c4
    refine ev_r_aload_n (pc := 13) (k := 0) (v := .ref 621) trivial (by decide +kernel) (by rfl) ?_
    refine ev_r_iload_n (pc := 14) (k := 1) (v := Int32.ofInt a0) (by decide +kernel) (by rfl) ?_
    refine ev_r_virt (pc := 15) (y := 713) (mi := 319) (na := 1) (k := 621) (as := [.int (Int32.ofInt a0)]) (rest := []) (encc := ev_oI) (Q := ev_rng) (fun x S1 h => jt_319 d (by omega) Q a0 ha0 s2 x S1 h) (by exact ev_ob_621) (by decide +kernel) (by decide +kernel) (by decide +kernel) (by decide +kernel) rfl (by (try simp only [ev_sum, ev_nv_cat]); first | done | rfl) ?_
    intro x8 s7 hx8
    show ev_w _ _ _ _ _ [.int (Int32.ofInt x8)] _ _ _ _
    refine ev_r_goto (pc := 18) (o := 8) (t := 26) (by decide +kernel) (by decide +kernel) ?_
    exact ev_r_ireturn (pc := 26) (x := x8) (v := Int32.ofInt x8) (ty := .int) hx8 (by decide +kernel) (by decide +kernel) rfl rfl
/-- MendBenchModel.isBuffer(I)Z -/
def jm_325 (Q : Nat) (a0 : Int) (S : ev_St) : Option ((Int) × ev_St) := ev_bd (jm_222 Q a0 0 2 S) fun x2 s1 => ev_if (ev_bl x2) (some (x2, s1))
theorem jt_325 (d : Nat) (hd : 2 ≤ d) (Q : Nat) (a0 : Int) (ha0 : ev_rng a0) (S : ev_St) (x : Int) (S' : ev_St) (hJ : jm_325 Q a0 S = some (x, S')) : ev_Ref d 325 [.ref 621, .int (Int32.ofInt a0)] S (ev_eI x) S' (ev_bl x) := by
  obtain ⟨d, rfl⟩ : ∃ e, d = e + 1 := ⟨d - 1, by omega⟩
  refine ev_ref_of (P := ev_bl) (lv := [(0, .ref 621), (1, .int (Int32.ofInt a0))]) (by decide +kernel) (by (try simp only [ev_sum, ev_nv_cat]); first | done | rfl) (by (try simp only [lv_args, ev_nv_cat]); first | done | rfl) ?_ x S' hJ
  unfold jm_325
  refine ev_r_iload_n (pc := 0) (k := 1) (v := Int32.ofInt a0) (by decide +kernel) (by rfl) ?_
  refine ev_r_iconst (pc := 1) (k := 0) (by decide +kernel) ?_
  refine ev_r_iconst (pc := 2) (k := 2) (by decide +kernel) ?_
  refine ev_r_stat (pc := 3) (y := 325) (kind := 2) (mi := 222) (na := 3) (as := [.int (Int32.ofInt a0), .int (Int32.ofInt 0), .int (Int32.ofInt 2)]) (rest := []) (encc := ev_oI) (Q := ev_bl) (fun x S1 h => jt_222 d (by omega) Q a0 0 2 ha0 (by decide) (by decide) S x S1 h) (Or.inl rfl) (by decide +kernel) (by decide +kernel) (by decide +kernel) (by decide +kernel) rfl (by (try simp only [ev_sum, ev_nv_cat]); first | done | rfl) ?_
  intro x2 s1 hx2
  replace hx2 := ev_bl_rng hx2
  show ev_w _ _ _ _ _ [.int (Int32.ofInt x2)] _ _ _ _
  refine ev_r_chk ?_
  intro c3
  exact ev_r_ireturn (pc := 6) (x := x2) (v := Int32.ofInt x2) (ty := .boolean) c3 (by decide +kernel) (by decide +kernel) (ev_ret_bl c3) rfl
/-- MendBenchModel.isAt(II)Z -/
def jm_326 (Q : Nat) (a0 : Int) (a1 : Int) (S : ev_St) : Option ((Int) × ev_St) := ev_bd (jm_325 Q a0 S) fun x2 s1 => if x2 = 0 then (some (0, s1)) else (ev_if ((0 : Int) ≤ a0 ∧ a0 < (ev_aln 707 : Int)) (ev_b (s1.1 707 (Int.toNat a0)) fun x4 => ev_bd (jm_222 Q a1 0 x4 s1) fun x6 s5 => if x6 = 0 then (some (0, s5)) else (some (1, s5))))
theorem jt_326 (d : Nat) (hd : 3 ≤ d) (Q : Nat) (a0 : Int) (a1 : Int) (ha0 : ev_rng a0) (ha1 : ev_rng a1) (S : ev_St) (x : Int) (S' : ev_St) (hJ : jm_326 Q a0 a1 S = some (x, S')) : ev_Ref d 326 [.ref 621, .int (Int32.ofInt a0), .int (Int32.ofInt a1)] S (ev_eI x) S' (ev_bl x) := by
  obtain ⟨d, rfl⟩ : ∃ e, d = e + 1 := ⟨d - 1, by omega⟩
  refine ev_ref_of (P := ev_bl) (lv := [(0, .ref 621), (1, .int (Int32.ofInt a0)), (2, .int (Int32.ofInt a1))]) (by decide +kernel) (by (try simp only [ev_sum, ev_nv_cat]); first | done | rfl) (by (try simp only [lv_args, ev_nv_cat]); first | done | rfl) ?_ x S' hJ
  unfold jm_326
  refine ev_r_aload_n (pc := 0) (k := 0) (v := .ref 621) trivial (by decide +kernel) (by rfl) ?_
  refine ev_r_iload_n (pc := 1) (k := 1) (v := Int32.ofInt a0) (by decide +kernel) (by rfl) ?_
  refine ev_r_virt (pc := 2) (y := 716) (mi := 325) (na := 1) (k := 621) (as := [.int (Int32.ofInt a0)]) (rest := []) (encc := ev_oI) (Q := ev_bl) (fun x S1 h => jt_325 d (by omega) Q a0 ha0 S x S1 h) (by exact ev_ob_621) (by decide +kernel) (by decide +kernel) (by decide +kernel) (by decide +kernel) rfl (by (try simp only [ev_sum, ev_nv_cat]); first | done | rfl) ?_
  intro x2 s1 hx2
  replace hx2 := ev_bl_rng hx2
  show ev_w _ _ _ _ _ [.int (Int32.ofInt x2)] _ _ _ _
  refine ev_r_if (pc := 5) (q := .eq) (o := 21) (t := 26) (c := x2 = 0) (by decide +kernel) (ev_k_eq hx2 ev_rng0) (by decide +kernel) ?_ ?_
  · intro c3
    refine ev_r_iconst (pc := 26) (k := 0) (by decide +kernel) ?_
    exact ev_r_ireturn (pc := 27) (x := 0) (v := Int32.ofInt 0) (ty := .boolean) (by decide : ev_bl 0) (by decide +kernel) (by decide +kernel) (ev_ret_bl (by decide : ev_bl 0)) rfl
  · intro c3
    refine ev_r_iload_n (pc := 8) (k := 2) (v := Int32.ofInt a1) (by decide +kernel) (by rfl) ?_
    refine ev_r_iconst (pc := 9) (k := 0) (by decide +kernel) ?_
    refine ev_r_aload_n (pc := 10) (k := 0) (v := .ref 621) trivial (by decide +kernel) (by rfl) ?_
    refine ev_r_getC (pc := 11) (y := 270) (ci := 13) (f := 119) (fin := 1) (k' := 707) (by decide +kernel) (by decide +kernel) (by exact ev_ob_621) rfl rfl ?_
    refine ev_r_iload_n (pc := 14) (k := 1) (v := Int32.ofInt a0) (by decide +kernel) (by rfl) ?_
    refine ev_r_iald (pc := 15) ha0 (by decide +kernel) (by exact ev_ab_707) ?_
    intro x4 hx4
    refine ev_r_stat (pc := 16) (y := 325) (kind := 2) (mi := 222) (na := 3) (as := [.int (Int32.ofInt a1), .int (Int32.ofInt 0), .int (Int32.ofInt x4)]) (rest := []) (encc := ev_oI) (Q := ev_bl) (fun x S1 h => jt_222 d (by omega) Q a1 0 x4 ha1 (by decide) hx4 s1 x S1 h) (Or.inl rfl) (by decide +kernel) (by decide +kernel) (by decide +kernel) (by decide +kernel) rfl (by (try simp only [ev_sum, ev_nv_cat]); first | done | rfl) ?_
    intro x6 s5 hx6
    replace hx6 := ev_bl_rng hx6
    show ev_w _ _ _ _ _ [.int (Int32.ofInt x6)] _ _ _ _
    refine ev_r_if (pc := 19) (q := .eq) (o := 7) (t := 26) (c := x6 = 0) (by decide +kernel) (ev_k_eq hx6 ev_rng0) (by decide +kernel) ?_ ?_
    · intro c7
      refine ev_r_iconst (pc := 26) (k := 0) (by decide +kernel) ?_
      exact ev_r_ireturn (pc := 27) (x := 0) (v := Int32.ofInt 0) (ty := .boolean) (by decide : ev_bl 0) (by decide +kernel) (by decide +kernel) (ev_ret_bl (by decide : ev_bl 0)) rfl
    · intro c7
      refine ev_r_iconst (pc := 22) (k := 1) (by decide +kernel) ?_
      refine ev_r_goto (pc := 23) (o := 4) (t := 27) (by decide +kernel) (by decide +kernel) ?_
      exact ev_r_ireturn (pc := 27) (x := 1) (v := Int32.ofInt 1) (ty := .boolean) (by decide : ev_bl 1) (by decide +kernel) (by decide +kernel) (ev_ret_bl (by decide : ev_bl 1)) rfl
/-- MendBenchModel.tellsGroup(II)I -/
def jm_327 (Q : Nat) (a0 : Int) (a1 : Int) (S : ev_St) : Option ((Int) × ev_St) := if a0 = 1 then (ev_if ((0 : Int) ≤ a1 ∧ a1 < (ev_aln 679 : Int)) (ev_b (S.1 679 (Int.toNat a1)) fun x2 => if x2 ≠ (-1) then (ev_if ((0 : Int) ≤ a1 ∧ a1 < (ev_aln 679 : Int)) (ev_b (S.1 679 (Int.toNat a1)) fun x4 => ev_ck (1000 * x4) fun x5 => ev_if ((0 : Int) ≤ a1 ∧ a1 < (ev_aln 680 : Int)) (ev_b (S.1 680 (Int.toNat a1)) fun x6 => ev_ck (x5 + x6) fun x7 => some (x7, S)))) else (some ((-3), S)))) else (if a0 ≠ 0 then (some ((-2), S)) else (some ((-1), S)))
theorem jt_327 (d : Nat) (hd : 1 ≤ d) (Q : Nat) (a0 : Int) (a1 : Int) (ha0 : ev_rng a0) (ha1 : ev_rng a1) (S : ev_St) (x : Int) (S' : ev_St) (hJ : jm_327 Q a0 a1 S = some (x, S')) : ev_Ref d 327 [.ref 621, .int (Int32.ofInt a0), .int (Int32.ofInt a1)] S (ev_eI x) S' (ev_rng x) := by
  obtain ⟨d, rfl⟩ : ∃ e, d = e + 1 := ⟨d - 1, by omega⟩
  refine ev_ref_of (P := ev_rng) (lv := [(0, .ref 621), (1, .int (Int32.ofInt a0)), (2, .int (Int32.ofInt a1))]) (by decide +kernel) (by (try simp only [ev_sum, ev_nv_cat]); first | done | rfl) (by (try simp only [lv_args, ev_nv_cat]); first | done | rfl) ?_ x S' hJ
  unfold jm_327
  refine ev_r_iload_n (pc := 0) (k := 1) (v := Int32.ofInt a0) (by decide +kernel) (by rfl) ?_
  refine ev_r_iconst (pc := 1) (k := 1) (by decide +kernel) ?_
  refine ev_r_icmp (pc := 2) (q := .eq) (o := 14) (t := 16) (c := a0 = 1) (by decide +kernel) (ev_k_eq ha0 (by decide)) (by decide +kernel) ?_ ?_
  · intro c1
    refine ev_r_aload_n (pc := 16) (k := 0) (v := .ref 621) trivial (by decide +kernel) (by rfl) ?_
    refine ev_r_getC (pc := 17) (y := 184) (ci := 13) (f := 86) (fin := 1) (k' := 679) (by decide +kernel) (by decide +kernel) (by exact ev_ob_621) rfl rfl ?_
    refine ev_r_iload_n (pc := 20) (k := 2) (v := Int32.ofInt a1) (by decide +kernel) (by rfl) ?_
    refine ev_r_iald (pc := 21) ha1 (by decide +kernel) (by exact ev_ab_679) ?_
    intro x2 hx2
    refine ev_r_iconst (pc := 22) (k := -1) (by decide +kernel) ?_
    refine ev_r_icmp (pc := 23) (q := .ne) (o := 8) (t := 31) (c := x2 ≠ (-1)) (by decide +kernel) (ev_k_ne hx2 (by decide)) (by decide +kernel) ?_ ?_
    · intro c3
      refine ev_r_sipush (pc := 31) (k := 1000) (by decide +kernel) (by decide +kernel) ?_
      refine ev_r_aload_n (pc := 34) (k := 0) (v := .ref 621) trivial (by decide +kernel) (by rfl) ?_
      refine ev_r_getC (pc := 35) (y := 184) (ci := 13) (f := 86) (fin := 1) (k' := 679) (by decide +kernel) (by decide +kernel) (by exact ev_ob_621) rfl rfl ?_
      refine ev_r_iload_n (pc := 38) (k := 2) (v := Int32.ofInt a1) (by decide +kernel) (by rfl) ?_
      refine ev_r_iald (pc := 39) ha1 (by decide +kernel) (by exact ev_ab_679) ?_
      intro x4 hx4
      refine ev_r_imul (pc := 40) (by decide +kernel) ?_
      intro x5 hx5
      refine ev_r_aload_n (pc := 41) (k := 0) (v := .ref 621) trivial (by decide +kernel) (by rfl) ?_
      refine ev_r_getC (pc := 42) (y := 187) (ci := 13) (f := 87) (fin := 1) (k' := 680) (by decide +kernel) (by decide +kernel) (by exact ev_ob_621) rfl rfl ?_
      refine ev_r_iload_n (pc := 45) (k := 2) (v := Int32.ofInt a1) (by decide +kernel) (by rfl) ?_
      refine ev_r_iald (pc := 46) ha1 (by decide +kernel) (by exact ev_ab_680) ?_
      intro x6 hx6
      refine ev_r_iadd (pc := 47) (by decide +kernel) ?_
      intro x7 hx7
      exact ev_r_ireturn (pc := 48) (x := x7) (v := Int32.ofInt x7) (ty := .int) hx7 (by decide +kernel) (by decide +kernel) rfl rfl
    · intro c3
      refine ev_r_bipush (pc := 26) (k := -3) (by decide +kernel) (by decide +kernel) ?_
      refine ev_r_goto (pc := 28) (o := 20) (t := 48) (by decide +kernel) (by decide +kernel) ?_
      exact ev_r_ireturn (pc := 48) (x := (-3)) (v := Int32.ofInt ((-3))) (ty := .int) (by decide) (by decide +kernel) (by decide +kernel) rfl rfl
  · intro c1
    refine ev_r_iload_n (pc := 5) (k := 1) (v := Int32.ofInt a0) (by decide +kernel) (by rfl) ?_
    refine ev_r_if (pc := 6) (q := .ne) (o := 7) (t := 13) (c := a0 ≠ 0) (by decide +kernel) (ev_k_ne ha0 ev_rng0) (by decide +kernel) ?_ ?_
    · intro c8
      refine ev_r_bipush (pc := 13) (k := -2) (by decide +kernel) (by decide +kernel) ?_
      exact ev_r_ireturn (pc := 15) (x := (-2)) (v := Int32.ofInt ((-2))) (ty := .int) (by decide) (by decide +kernel) (by decide +kernel) rfl rfl
    · intro c8
      refine ev_r_iconst (pc := 9) (k := -1) (by decide +kernel) ?_
      refine ev_r_goto (pc := 10) (o := 5) (t := 15) (by decide +kernel) (by decide +kernel) ?_
      exact ev_r_ireturn (pc := 15) (x := (-1)) (v := Int32.ofInt ((-1))) (ty := .int) (by decide) (by decide +kernel) (by decide +kernel) rfl rfl
/-- MendBenchModel.find(IIII)I -/
def jm_328 (Q : Nat) (a0 : Int) (a1 : Int) (a2 : Int) (a3 : Int) (S : ev_St) : Option ((Int) × ev_St) := ev_bd (jm_273 Q a0 S) fun x2 s1 => ev_jn (fun (x3 : Int) (s10 : ev_St) => ev_b (ev_pI s10 621 0 x3) fun s11 => ev_b (s11.1 621 0) fun x12 => if x12 ≤ 0 then (ev_bd (jm_288 Q a1 s11) fun _ s14 => ev_bd (jm_308 Q a0 a2 0 s14) fun x16 s15 => ev_bd (jm_327 Q x16 a3 s15) fun x18 s17 => some (x18, s17)) else (some (0, s11))) fun K38 => ev_jn (fun  (s25 : ev_St) => K38 1 s25) fun K37 => if x2 = 0 then (K37  s1) else (ev_bd (jm_326 Q a1 a2 s1) fun x28 s27 => if x28 = 0 then (K37  s27) else (ev_if ((0 : Int) ≤ a0 ∧ a0 < (ev_aln 636 : Int)) (ev_b (s27.1 636 (Int.toNat a0)) fun x30 => ev_bd (jm_222 Q a3 0 x30 s27) fun x32 s31 => if x32 = 0 then (K37  s31) else (K38 0 s31))))
theorem jt_328 (d : Nat) (hd : 10 ≤ d) (Q : Nat) (a0 : Int) (a1 : Int) (a2 : Int) (a3 : Int) (ha0 : ev_rng a0) (ha1 : ev_rng a1) (ha2 : ev_rng a2) (ha3 : ev_rng a3) (S : ev_St) (x : Int) (S' : ev_St) (hJ : jm_328 Q a0 a1 a2 a3 S = some (x, S')) : ev_Ref d 328 [.ref 621, .int (Int32.ofInt a0), .int (Int32.ofInt a1), .int (Int32.ofInt a2), .int (Int32.ofInt a3)] S (ev_eI x) S' (ev_rng x) := by
  obtain ⟨d, rfl⟩ : ∃ e, d = e + 1 := ⟨d - 1, by omega⟩
  refine ev_ref_of (P := ev_rng) (lv := [(0, .ref 621), (1, .int (Int32.ofInt a0)), (2, .int (Int32.ofInt a1)), (3, .int (Int32.ofInt a2)), (4, .int (Int32.ofInt a3))]) (by decide +kernel) (by (try simp only [ev_sum, ev_nv_cat]); first | done | rfl) (by (try simp only [lv_args, ev_nv_cat]); first | done | rfl) ?_ x S' hJ
  unfold jm_328
  refine ev_r_aload_n (pc := 0) (k := 0) (v := .ref 621) trivial (by decide +kernel) (by rfl) ?_
  refine ev_r_aload_n (pc := 1) (k := 0) (v := .ref 621) trivial (by decide +kernel) (by rfl) ?_
  refine ev_r_iload_n (pc := 2) (k := 1) (v := Int32.ofInt a0) (by decide +kernel) (by rfl) ?_
  refine ev_r_virt (pc := 3) (y := 531) (mi := 273) (na := 1) (k := 621) (as := [.int (Int32.ofInt a0)]) (rest := [.ref 621]) (encc := ev_oI) (Q := ev_bl) (fun x S1 h => jt_273 d (by omega) Q a0 ha0 S x S1 h) (by exact ev_ob_621) (by decide +kernel) (by decide +kernel) (by decide +kernel) (by decide +kernel) rfl (by (try simp only [ev_sum, ev_nv_cat]); first | done | rfl) ?_
  intro x2 s1 hx2
  replace hx2 := ev_bl_rng hx2
  show ev_w _ _ _ _ _ [.int (Int32.ofInt x2), .ref 621] _ _ _ _
  refine ev_r_jn (Q := fun K => ∀ (x3 : Int) (hx3 : ev_rng x3), ∀ (s10 : ev_St) (w4 : List (Nat × Value)), ev_lk w4 0 = some (.ref 621) → ev_lk w4 1 = some (.int (Int32.ofInt a0)) → ev_lk w4 2 = some (.int (Int32.ofInt a1)) → ev_lk w4 3 = some (.int (Int32.ofInt a2)) → ev_lk w4 4 = some (.int (Int32.ofInt a3)) → ev_w none (ev_Mof 328) d 38 w4 [.int (Int32.ofInt x3), .ref 621] s10 (K x3 s10) ev_eI ev_rng) ?_ ?_
  · intro x3 hx3 s10 w4 e5 e6 e7 e8 e9
    refine ev_r_putI (pc := 38) (y := 321) (ci := 13) (f := 0) hx3 (by decide +kernel) (by decide +kernel) (by exact ev_ob_621) rfl rfl ?_
    intro s11
    refine ev_r_aload_n (pc := 41) (k := 0) (v := .ref 621) trivial (by decide +kernel) (by exact e5) ?_
    refine ev_r_getI (pc := 42) (y := 321) (ci := 13) (f := 0) (fin := 0) (by decide +kernel) (by decide +kernel) (by exact ev_ob_621) rfl ?_
    intro x12 hx12
    refine ev_r_if (pc := 45) (q := .le) (o := 5) (t := 50) (c := x12 ≤ 0) (by decide +kernel) (ev_k_le hx12 ev_rng0) (by decide +kernel) ?_ ?_
    · intro c13
      refine ev_r_aload_n (pc := 50) (k := 0) (v := .ref 621) trivial (by decide +kernel) (by exact e5) ?_
      refine ev_r_iload_n (pc := 51) (k := 2) (v := Int32.ofInt a1) (by decide +kernel) (by exact e7) ?_
      refine ev_r_virt (pc := 52) (y := 722) (mi := 288) (na := 1) (k := 621) (as := [.int (Int32.ofInt a1)]) (rest := []) (encc := ev_oU) (Q := ev_PU) (fun x S1 h => jt_288 d (by omega) Q a1 ha1 s11 x S1 h) (by exact ev_ob_621) (by decide +kernel) (by decide +kernel) (by decide +kernel) (by decide +kernel) rfl (by (try simp only [ev_sum, ev_nv_cat]); first | done | rfl) ?_
      intro _ s14 _
      show ev_w _ _ _ _ _ [] _ _ _ _
      refine ev_r_aload_n (pc := 55) (k := 0) (v := .ref 621) trivial (by decide +kernel) (by exact e5) ?_
      refine ev_r_aload_n (pc := 56) (k := 0) (v := .ref 621) trivial (by decide +kernel) (by exact e5) ?_
      refine ev_r_iload_n (pc := 57) (k := 1) (v := Int32.ofInt a0) (by decide +kernel) (by exact e6) ?_
      refine ev_r_iload_n (pc := 58) (k := 3) (v := Int32.ofInt a2) (by decide +kernel) (by exact e8) ?_
      refine ev_r_iconst (pc := 59) (k := 0) (by decide +kernel) ?_
      refine ev_r_virt (pc := 60) (y := 725) (mi := 308) (na := 3) (k := 621) (as := [.int (Int32.ofInt a0), .int (Int32.ofInt a2), .int (Int32.ofInt 0)]) (rest := [.ref 621]) (encc := ev_oI) (Q := ev_rng) (fun x S1 h => jt_308 d (by omega) Q a0 a2 0 ha0 ha2 (by decide) s14 x S1 h) (by exact ev_ob_621) (by decide +kernel) (by decide +kernel) (by decide +kernel) (by decide +kernel) rfl (by (try simp only [ev_sum, ev_nv_cat]); first | done | rfl) ?_
      intro x16 s15 hx16
      show ev_w _ _ _ _ _ [.int (Int32.ofInt x16), .ref 621] _ _ _ _
      refine ev_r_iload (pc := 63) (k := 4) (v := Int32.ofInt a3) (by decide +kernel) (by exact e9) ?_
      refine ev_r_virt (pc := 65) (y := 729) (mi := 327) (na := 2) (k := 621) (as := [.int (Int32.ofInt x16), .int (Int32.ofInt a3)]) (rest := []) (encc := ev_oI) (Q := ev_rng) (fun x S1 h => jt_327 d (by omega) Q x16 a3 hx16 ha3 s15 x S1 h) (by exact ev_ob_621) (by decide +kernel) (by decide +kernel) (by decide +kernel) (by decide +kernel) rfl (by (try simp only [ev_sum, ev_nv_cat]); first | done | rfl) ?_
      intro x18 s17 hx18
      show ev_w _ _ _ _ _ [.int (Int32.ofInt x18)] _ _ _ _
      exact ev_r_ireturn (pc := 68) (x := x18) (v := Int32.ofInt x18) (ty := .int) hx18 (by decide +kernel) (by decide +kernel) rfl rfl
    · intro c13
      refine ev_r_iconst (pc := 48) (k := 0) (by decide +kernel) ?_
      exact ev_r_ireturn (pc := 49) (x := 0) (v := Int32.ofInt 0) (ty := .int) (by decide) (by decide +kernel) (by decide +kernel) rfl rfl
  · intro K38 hK38
    refine ev_r_jn (Q := fun K => ∀ (s25 : ev_St) (w19 : List (Nat × Value)), ev_lk w19 0 = some (.ref 621) → ev_lk w19 1 = some (.int (Int32.ofInt a0)) → ev_lk w19 2 = some (.int (Int32.ofInt a1)) → ev_lk w19 3 = some (.int (Int32.ofInt a2)) → ev_lk w19 4 = some (.int (Int32.ofInt a3)) → ev_w none (ev_Mof 328) d 37 w19 [.ref 621] s25 (K  s25) ev_eI ev_rng) ?_ ?_
    · intro  s25 w19 e20 e21 e22 e23 e24
      refine ev_r_iconst (pc := 37) (k := 1) (by decide +kernel) ?_
      exact hK38 1 (by decide) s25 _ (by exact e20) (by exact e21) (by exact e22) (by exact e23) (by exact e24)
    · intro K37 hK37
      refine ev_r_if (pc := 6) (q := .eq) (o := 31) (t := 37) (c := x2 = 0) (by decide +kernel) (ev_k_eq hx2 ev_rng0) (by decide +kernel) ?_ ?_
      · intro c26
        exact hK37  s1 _ (by rfl) (by rfl) (by rfl) (by rfl) (by rfl)
      · intro c26
        refine ev_r_aload_n (pc := 9) (k := 0) (v := .ref 621) trivial (by decide +kernel) (by rfl) ?_
        refine ev_r_iload_n (pc := 10) (k := 2) (v := Int32.ofInt a1) (by decide +kernel) (by rfl) ?_
        refine ev_r_iload_n (pc := 11) (k := 3) (v := Int32.ofInt a2) (by decide +kernel) (by rfl) ?_
        refine ev_r_virt (pc := 12) (y := 719) (mi := 326) (na := 2) (k := 621) (as := [.int (Int32.ofInt a1), .int (Int32.ofInt a2)]) (rest := [.ref 621]) (encc := ev_oI) (Q := ev_bl) (fun x S1 h => jt_326 d (by omega) Q a1 a2 ha1 ha2 s1 x S1 h) (by exact ev_ob_621) (by decide +kernel) (by decide +kernel) (by decide +kernel) (by decide +kernel) rfl (by (try simp only [ev_sum, ev_nv_cat]); first | done | rfl) ?_
        intro x28 s27 hx28
        replace hx28 := ev_bl_rng hx28
        show ev_w _ _ _ _ _ [.int (Int32.ofInt x28), .ref 621] _ _ _ _
        refine ev_r_if (pc := 15) (q := .eq) (o := 22) (t := 37) (c := x28 = 0) (by decide +kernel) (ev_k_eq hx28 ev_rng0) (by decide +kernel) ?_ ?_
        · intro c29
          exact hK37  s27 _ (by rfl) (by rfl) (by rfl) (by rfl) (by rfl)
        · intro c29
          refine ev_r_iload (pc := 18) (k := 4) (v := Int32.ofInt a3) (by decide +kernel) (by rfl) ?_
          refine ev_r_iconst (pc := 20) (k := 0) (by decide +kernel) ?_
          refine ev_r_aload_n (pc := 21) (k := 0) (v := .ref 621) trivial (by decide +kernel) (by rfl) ?_
          refine ev_r_getC (pc := 22) (y := 53) (ci := 13) (f := 17) (fin := 1) (k' := 636) (by decide +kernel) (by decide +kernel) (by exact ev_ob_621) rfl rfl ?_
          refine ev_r_iload_n (pc := 25) (k := 1) (v := Int32.ofInt a0) (by decide +kernel) (by rfl) ?_
          refine ev_r_iald (pc := 26) ha0 (by decide +kernel) (by exact ev_ab_636) ?_
          intro x30 hx30
          refine ev_r_stat (pc := 27) (y := 325) (kind := 2) (mi := 222) (na := 3) (as := [.int (Int32.ofInt a3), .int (Int32.ofInt 0), .int (Int32.ofInt x30)]) (rest := [.ref 621]) (encc := ev_oI) (Q := ev_bl) (fun x S1 h => jt_222 d (by omega) Q a3 0 x30 ha3 (by decide) hx30 s27 x S1 h) (Or.inl rfl) (by decide +kernel) (by decide +kernel) (by decide +kernel) (by decide +kernel) rfl (by (try simp only [ev_sum, ev_nv_cat]); first | done | rfl) ?_
          intro x32 s31 hx32
          replace hx32 := ev_bl_rng hx32
          show ev_w _ _ _ _ _ [.int (Int32.ofInt x32), .ref 621] _ _ _ _
          refine ev_r_if (pc := 30) (q := .eq) (o := 7) (t := 37) (c := x32 = 0) (by decide +kernel) (ev_k_eq hx32 ev_rng0) (by decide +kernel) ?_ ?_
          · intro c33
            exact hK37  s31 _ (by rfl) (by rfl) (by rfl) (by rfl) (by rfl)
          · intro c33
            refine ev_r_iconst (pc := 33) (k := 0) (by decide +kernel) ?_
            refine ev_r_goto (pc := 34) (o := 4) (t := 38) (by decide +kernel) (by decide +kernel) ?_
            exact hK38 0 (by decide) s31 _ (by rfl) (by rfl) (by rfl) (by rfl) (by rfl)
/-- MendBenchModel.anew(IIII)I -/
def jm_329 (Q : Nat) (a0 : Int) (a1 : Int) (a2 : Int) (a3 : Int) (S : ev_St) : Option ((Int) × ev_St) := ev_bd (jm_328 Q a0 a1 a2 a3 S) fun x2 s1 => some (x2, s1)
theorem jt_329 (d : Nat) (hd : 11 ≤ d) (Q : Nat) (a0 : Int) (a1 : Int) (a2 : Int) (a3 : Int) (ha0 : ev_rng a0) (ha1 : ev_rng a1) (ha2 : ev_rng a2) (ha3 : ev_rng a3) (S : ev_St) (x : Int) (S' : ev_St) (hJ : jm_329 Q a0 a1 a2 a3 S = some (x, S')) : ev_Ref d 329 [.ref 621, .int (Int32.ofInt a0), .int (Int32.ofInt a1), .int (Int32.ofInt a2), .int (Int32.ofInt a3)] S (ev_eI x) S' (ev_rng x) := by
  obtain ⟨d, rfl⟩ : ∃ e, d = e + 1 := ⟨d - 1, by omega⟩
  refine ev_ref_of (P := ev_rng) (lv := [(0, .ref 621), (1, .int (Int32.ofInt a0)), (2, .int (Int32.ofInt a1)), (3, .int (Int32.ofInt a2)), (4, .int (Int32.ofInt a3))]) (by decide +kernel) (by (try simp only [ev_sum, ev_nv_cat]); first | done | rfl) (by (try simp only [lv_args, ev_nv_cat]); first | done | rfl) ?_ x S' hJ
  unfold jm_329
  refine ev_r_aload_n (pc := 0) (k := 0) (v := .ref 621) trivial (by decide +kernel) (by rfl) ?_
  refine ev_r_iload_n (pc := 1) (k := 1) (v := Int32.ofInt a0) (by decide +kernel) (by rfl) ?_
  refine ev_r_iload_n (pc := 2) (k := 2) (v := Int32.ofInt a1) (by decide +kernel) (by rfl) ?_
  refine ev_r_iload_n (pc := 3) (k := 3) (v := Int32.ofInt a2) (by decide +kernel) (by rfl) ?_
  refine ev_r_iload (pc := 4) (k := 4) (v := Int32.ofInt a3) (by decide +kernel) (by rfl) ?_
  refine ev_r_virt (pc := 6) (y := 732) (mi := 328) (na := 4) (k := 621) (as := [.int (Int32.ofInt a0), .int (Int32.ofInt a1), .int (Int32.ofInt a2), .int (Int32.ofInt a3)]) (rest := []) (encc := ev_oI) (Q := ev_rng) (fun x S1 h => jt_328 d (by omega) Q a0 a1 a2 a3 ha0 ha1 ha2 ha3 S x S1 h) (by exact ev_ob_621) (by decide +kernel) (by decide +kernel) (by decide +kernel) (by decide +kernel) rfl (by (try simp only [ev_sum, ev_nv_cat]); first | done | rfl) ?_
  intro x2 s1 hx2
  show ev_w _ _ _ _ _ [.int (Int32.ofInt x2)] _ _ _ _
  exact ev_r_ireturn (pc := 9) (x := x2) (v := Int32.ofInt x2) (ty := .int) hx2 (by decide +kernel) (by decide +kernel) rfl rfl
/-- MendBenchModel.by(IIIII)I -/
def jm_330 (Q : Nat) (a0 : Int) (a1 : Int) (a2 : Int) (a3 : Int) (a4 : Int) (S : ev_St) : Option ((Int) × ev_St) := ev_bd (jm_273 Q a1 S) fun x2 s1 => ev_jn (fun (x3 : Int) (s11 : ev_St) => ev_b (ev_pI s11 621 0 x3) fun s12 => ev_b (s12.1 621 0) fun x13 => if x13 ≤ 0 then (if a0 ≠ 0 then (ev_jn (fun  (s23 : ev_St) => ev_jn (fun  (s30 : ev_St) => ev_bd (jm_288 Q a2 s30) fun _ s31 => ev_bd (jm_315 Q a1 a3 s31) fun x33 s32 => ev_jn (fun (x34 : Int) (s37 : ev_St) => ev_bd (jm_327 Q x34 a4 s37) fun x39 s38 => some (x39, s38)) fun K137 => if x33 = 0 then (K137 0 s32) else (K137 1 s32)) fun K116 => if a0 ≠ 2 then (K116  s23) else (ev_if ((0 : Int) ≤ a1 ∧ a1 < (ev_aln 639 : Int)) (ev_b (s23.1 639 (Int.toNat a1)) fun x42 => if x42 < 2 then (some ((-4), s23)) else (if a4 ≤ 0 then (K116  s23) else (some ((-4), s23)))))) fun K93 => if a0 ≠ 1 then (K93  s12) else (ev_if ((0 : Int) ≤ a1 ∧ a1 < (ev_aln 639 : Int)) (ev_b (s12.1 639 (Int.toNat a1)) fun x46 => if x46 = 0 then (some ((-4), s12)) else (K93  s12)))) else (ev_bd (jm_328 Q a1 a2 a3 a4 s12) fun x49 s48 => some (x49, s48))) else (some (0, s12))) fun K52 => ev_jn (fun  (s57 : ev_St) => K52 1 s57) fun K34 => if x2 = 0 then (K34  s1) else (ev_bd (jm_326 Q a2 a3 s1) fun x60 s59 => if x60 = 0 then (K34  s59) else (ev_if ((0 : Int) ≤ a1 ∧ a1 < (ev_aln 636 : Int)) (ev_b (s59.1 636 (Int.toNat a1)) fun x62 => ev_bd (jm_222 Q a4 0 x62 s59) fun x64 s63 => if x64 ≠ 0 then (ev_bd (jm_222 Q a0 0 2 s63) fun x67 s66 => if x67 = 0 then (K52 2 s66) else (K52 0 s66)) else (K34  s63))))
theorem jt_330 (d : Nat) (hd : 11 ≤ d) (Q : Nat) (a0 : Int) (a1 : Int) (a2 : Int) (a3 : Int) (a4 : Int) (ha0 : ev_rng a0) (ha1 : ev_rng a1) (ha2 : ev_rng a2) (ha3 : ev_rng a3) (ha4 : ev_rng a4) (S : ev_St) (x : Int) (S' : ev_St) (hJ : jm_330 Q a0 a1 a2 a3 a4 S = some (x, S')) : ev_Ref d 330 [.ref 621, .int (Int32.ofInt a0), .int (Int32.ofInt a1), .int (Int32.ofInt a2), .int (Int32.ofInt a3), .int (Int32.ofInt a4)] S (ev_eI x) S' (ev_rng x) := by
  obtain ⟨d, rfl⟩ : ∃ e, d = e + 1 := ⟨d - 1, by omega⟩
  refine ev_ref_of (P := ev_rng) (lv := [(0, .ref 621), (1, .int (Int32.ofInt a0)), (2, .int (Int32.ofInt a1)), (3, .int (Int32.ofInt a2)), (4, .int (Int32.ofInt a3)), (5, .int (Int32.ofInt a4))]) (by decide +kernel) (by (try simp only [ev_sum, ev_nv_cat]); first | done | rfl) (by (try simp only [lv_args, ev_nv_cat]); first | done | rfl) ?_ x S' hJ
  unfold jm_330
  refine ev_r_aload_n (pc := 0) (k := 0) (v := .ref 621) trivial (by decide +kernel) (by rfl) ?_
  refine ev_r_aload_n (pc := 1) (k := 0) (v := .ref 621) trivial (by decide +kernel) (by rfl) ?_
  refine ev_r_iload_n (pc := 2) (k := 2) (v := Int32.ofInt a1) (by decide +kernel) (by rfl) ?_
  refine ev_r_virt (pc := 3) (y := 531) (mi := 273) (na := 1) (k := 621) (as := [.int (Int32.ofInt a1)]) (rest := [.ref 621]) (encc := ev_oI) (Q := ev_bl) (fun x S1 h => jt_273 d (by omega) Q a1 ha1 S x S1 h) (by exact ev_ob_621) (by decide +kernel) (by decide +kernel) (by decide +kernel) (by decide +kernel) rfl (by (try simp only [ev_sum, ev_nv_cat]); first | done | rfl) ?_
  intro x2 s1 hx2
  replace hx2 := ev_bl_rng hx2
  show ev_w _ _ _ _ _ [.int (Int32.ofInt x2), .ref 621] _ _ _ _
  refine ev_r_jn (Q := fun K => ∀ (x3 : Int) (hx3 : ev_rng x3), ∀ (s11 : ev_St) (w4 : List (Nat × Value)), ev_lk w4 0 = some (.ref 621) → ev_lk w4 1 = some (.int (Int32.ofInt a0)) → ev_lk w4 2 = some (.int (Int32.ofInt a1)) → ev_lk w4 3 = some (.int (Int32.ofInt a2)) → ev_lk w4 4 = some (.int (Int32.ofInt a3)) → ev_lk w4 5 = some (.int (Int32.ofInt a4)) → ev_w none (ev_Mof 330) d 52 w4 [.int (Int32.ofInt x3), .ref 621] s11 (K x3 s11) ev_eI ev_rng) ?_ ?_
  · intro x3 hx3 s11 w4 e5 e6 e7 e8 e9 e10
    refine ev_r_putI (pc := 52) (y := 321) (ci := 13) (f := 0) hx3 (by decide +kernel) (by decide +kernel) (by exact ev_ob_621) rfl rfl ?_
    intro s12
    refine ev_r_aload_n (pc := 55) (k := 0) (v := .ref 621) trivial (by decide +kernel) (by exact e5) ?_
    refine ev_r_getI (pc := 56) (y := 321) (ci := 13) (f := 0) (fin := 0) (by decide +kernel) (by decide +kernel) (by exact ev_ob_621) rfl ?_
    intro x13 hx13
    refine ev_r_if (pc := 59) (q := .le) (o := 5) (t := 64) (c := x13 ≤ 0) (by decide +kernel) (ev_k_le hx13 ev_rng0) (by decide +kernel) ?_ ?_
    · intro c14
      refine ev_r_iload_n (pc := 64) (k := 1) (v := Int32.ofInt a0) (by decide +kernel) (by exact e6) ?_
      refine ev_r_if (pc := 65) (q := .ne) (o := 14) (t := 79) (c := a0 ≠ 0) (by decide +kernel) (ev_k_ne ha0 ev_rng0) (by decide +kernel) ?_ ?_
      · intro c15
        refine ev_r_iload_n (pc := 79) (k := 1) (v := Int32.ofInt a0) (by decide +kernel) (by exact e6) ?_
        refine ev_r_iconst (pc := 80) (k := 1) (by decide +kernel) ?_
        refine ev_r_jn (Q := fun K => ∀ (s23 : ev_St) (w16 : List (Nat × Value)), ev_lk w16 0 = some (.ref 621) → ev_lk w16 1 = some (.int (Int32.ofInt a0)) → ev_lk w16 2 = some (.int (Int32.ofInt a1)) → ev_lk w16 3 = some (.int (Int32.ofInt a2)) → ev_lk w16 4 = some (.int (Int32.ofInt a3)) → ev_lk w16 5 = some (.int (Int32.ofInt a4)) → ev_w none (ev_Mof 330) d 93 w16 [] s23 (K  s23) ev_eI ev_rng) ?_ ?_
        · intro  s23 w16 e17 e18 e19 e20 e21 e22
          refine ev_r_iload_n (pc := 93) (k := 1) (v := Int32.ofInt a0) (by decide +kernel) (by exact e18) ?_
          refine ev_r_iconst (pc := 94) (k := 2) (by decide +kernel) ?_
          refine ev_r_jn (Q := fun K => ∀ (s30 : ev_St) (w24 : List (Nat × Value)), ev_lk w24 0 = some (.ref 621) → ev_lk w24 2 = some (.int (Int32.ofInt a1)) → ev_lk w24 3 = some (.int (Int32.ofInt a2)) → ev_lk w24 4 = some (.int (Int32.ofInt a3)) → ev_lk w24 5 = some (.int (Int32.ofInt a4)) → ev_w none (ev_Mof 330) d 116 w24 [] s30 (K  s30) ev_eI ev_rng) ?_ ?_
          · intro  s30 w24 e25 e26 e27 e28 e29
            refine ev_r_aload_n (pc := 116) (k := 0) (v := .ref 621) trivial (by decide +kernel) (by exact e25) ?_
            refine ev_r_iload_n (pc := 117) (k := 3) (v := Int32.ofInt a2) (by decide +kernel) (by exact e27) ?_
            refine ev_r_virt (pc := 118) (y := 722) (mi := 288) (na := 1) (k := 621) (as := [.int (Int32.ofInt a2)]) (rest := []) (encc := ev_oU) (Q := ev_PU) (fun x S1 h => jt_288 d (by omega) Q a2 ha2 s30 x S1 h) (by exact ev_ob_621) (by decide +kernel) (by decide +kernel) (by decide +kernel) (by decide +kernel) rfl (by (try simp only [ev_sum, ev_nv_cat]); first | done | rfl) ?_
            intro _ s31 _
            show ev_w _ _ _ _ _ [] _ _ _ _
            refine ev_r_aload_n (pc := 121) (k := 0) (v := .ref 621) trivial (by decide +kernel) (by exact e25) ?_
            refine ev_r_aload_n (pc := 122) (k := 0) (v := .ref 621) trivial (by decide +kernel) (by exact e25) ?_
            refine ev_r_iload_n (pc := 123) (k := 2) (v := Int32.ofInt a1) (by decide +kernel) (by exact e26) ?_
            refine ev_r_iload (pc := 124) (k := 4) (v := Int32.ofInt a3) (by decide +kernel) (by exact e28) ?_
            refine ev_r_virt (pc := 126) (y := 735) (mi := 315) (na := 2) (k := 621) (as := [.int (Int32.ofInt a1), .int (Int32.ofInt a3)]) (rest := [.ref 621]) (encc := ev_oI) (Q := ev_bl) (fun x S1 h => jt_315 d (by omega) Q a1 a3 ha1 ha3 s31 x S1 h) (by exact ev_ob_621) (by decide +kernel) (by decide +kernel) (by decide +kernel) (by decide +kernel) rfl (by (try simp only [ev_sum, ev_nv_cat]); first | done | rfl) ?_
            intro x33 s32 hx33
            replace hx33 := ev_bl_rng hx33
            show ev_w _ _ _ _ _ [.int (Int32.ofInt x33), .ref 621] _ _ _ _
            refine ev_r_jn (Q := fun K => ∀ (x34 : Int) (hx34 : ev_rng x34), ∀ (s37 : ev_St) (w35 : List (Nat × Value)), ev_lk w35 5 = some (.int (Int32.ofInt a4)) → ev_w none (ev_Mof 330) d 137 w35 [.int (Int32.ofInt x34), .ref 621] s37 (K x34 s37) ev_eI ev_rng) ?_ ?_
            · intro x34 hx34 s37 w35 e36
              refine ev_r_iload (pc := 137) (k := 5) (v := Int32.ofInt a4) (by decide +kernel) (by exact e36) ?_
              refine ev_r_virt (pc := 139) (y := 729) (mi := 327) (na := 2) (k := 621) (as := [.int (Int32.ofInt x34), .int (Int32.ofInt a4)]) (rest := []) (encc := ev_oI) (Q := ev_rng) (fun x S1 h => jt_327 d (by omega) Q x34 a4 hx34 ha4 s37 x S1 h) (by exact ev_ob_621) (by decide +kernel) (by decide +kernel) (by decide +kernel) (by decide +kernel) rfl (by (try simp only [ev_sum, ev_nv_cat]); first | done | rfl) ?_
              intro x39 s38 hx39
              show ev_w _ _ _ _ _ [.int (Int32.ofInt x39)] _ _ _ _
              exact ev_r_ireturn (pc := 142) (x := x39) (v := Int32.ofInt x39) (ty := .int) hx39 (by decide +kernel) (by decide +kernel) rfl rfl
            · intro K137 hK137
              refine ev_r_if (pc := 129) (q := .eq) (o := 7) (t := 136) (c := x33 = 0) (by decide +kernel) (ev_k_eq hx33 ev_rng0) (by decide +kernel) ?_ ?_
              · intro c40
                refine ev_r_iconst (pc := 136) (k := 0) (by decide +kernel) ?_
                exact hK137 0 (by decide) s32 _ (by exact e29)
              · intro c40
                refine ev_r_iconst (pc := 132) (k := 1) (by decide +kernel) ?_
                refine ev_r_goto (pc := 133) (o := 4) (t := 137) (by decide +kernel) (by decide +kernel) ?_
                exact hK137 1 (by decide) s32 _ (by exact e29)
          · intro K116 hK116
            refine ev_r_icmp (pc := 95) (q := .ne) (o := 21) (t := 116) (c := a0 ≠ 2) (by decide +kernel) (ev_k_ne ha0 (by decide)) (by decide +kernel) ?_ ?_
            · intro c41
              exact hK116  s23 _ (by exact e17) (by exact e19) (by exact e20) (by exact e21) (by exact e22)
            · intro c41
              refine ev_r_aload_n (pc := 98) (k := 0) (v := .ref 621) trivial (by decide +kernel) (by exact e17) ?_
              refine ev_r_getC (pc := 99) (y := 62) (ci := 13) (f := 20) (fin := 1) (k' := 639) (by decide +kernel) (by decide +kernel) (by exact ev_ob_621) rfl rfl ?_
              refine ev_r_iload_n (pc := 102) (k := 2) (v := Int32.ofInt a1) (by decide +kernel) (by exact e19) ?_
              refine ev_r_iald (pc := 103) ha1 (by decide +kernel) (by exact ev_ab_639) ?_
              intro x42 hx42
              refine ev_r_iconst (pc := 104) (k := 2) (by decide +kernel) ?_
              refine ev_r_icmp (pc := 105) (q := .lt) (o := 8) (t := 113) (c := x42 < 2) (by decide +kernel) (ev_k_lt hx42 (by decide)) (by decide +kernel) ?_ ?_
              · intro c43
                refine ev_r_bipush (pc := 113) (k := -4) (by decide +kernel) (by decide +kernel) ?_
                exact ev_r_ireturn (pc := 115) (x := (-4)) (v := Int32.ofInt ((-4))) (ty := .int) (by decide) (by decide +kernel) (by decide +kernel) rfl rfl
              · intro c43
                refine ev_r_iload (pc := 108) (k := 5) (v := Int32.ofInt a4) (by decide +kernel) (by exact e22) ?_
                refine ev_r_if (pc := 110) (q := .le) (o := 6) (t := 116) (c := a4 ≤ 0) (by decide +kernel) (ev_k_le ha4 ev_rng0) (by decide +kernel) ?_ ?_
                · intro c44
                  exact hK116  s23 _ (by exact e17) (by exact e19) (by exact e20) (by exact e21) (by exact e22)
                · intro c44
                  refine ev_r_bipush (pc := 113) (k := -4) (by decide +kernel) (by decide +kernel) ?_
                  exact ev_r_ireturn (pc := 115) (x := (-4)) (v := Int32.ofInt ((-4))) (ty := .int) (by decide) (by decide +kernel) (by decide +kernel) rfl rfl
        · intro K93 hK93
          refine ev_r_icmp (pc := 81) (q := .ne) (o := 12) (t := 93) (c := a0 ≠ 1) (by decide +kernel) (ev_k_ne ha0 (by decide)) (by decide +kernel) ?_ ?_
          · intro c45
            exact hK93  s12 _ (by exact e5) (by exact e6) (by exact e7) (by exact e8) (by exact e9) (by exact e10)
          · intro c45
            refine ev_r_aload_n (pc := 84) (k := 0) (v := .ref 621) trivial (by decide +kernel) (by exact e5) ?_
            refine ev_r_getC (pc := 85) (y := 62) (ci := 13) (f := 20) (fin := 1) (k' := 639) (by decide +kernel) (by decide +kernel) (by exact ev_ob_621) rfl rfl ?_
            refine ev_r_iload_n (pc := 88) (k := 2) (v := Int32.ofInt a1) (by decide +kernel) (by exact e7) ?_
            refine ev_r_iald (pc := 89) ha1 (by decide +kernel) (by exact ev_ab_639) ?_
            intro x46 hx46
            refine ev_r_if (pc := 90) (q := .eq) (o := 23) (t := 113) (c := x46 = 0) (by decide +kernel) (ev_k_eq hx46 ev_rng0) (by decide +kernel) ?_ ?_
            · intro c47
              refine ev_r_bipush (pc := 113) (k := -4) (by decide +kernel) (by decide +kernel) ?_
              exact ev_r_ireturn (pc := 115) (x := (-4)) (v := Int32.ofInt ((-4))) (ty := .int) (by decide) (by decide +kernel) (by decide +kernel) rfl rfl
            · intro c47
              exact hK93  s12 _ (by exact e5) (by exact e6) (by exact e7) (by exact e8) (by exact e9) (by exact e10)
      · intro c15
        refine ev_r_aload_n (pc := 68) (k := 0) (v := .ref 621) trivial (by decide +kernel) (by exact e5) ?_
        refine ev_r_iload_n (pc := 69) (k := 2) (v := Int32.ofInt a1) (by decide +kernel) (by exact e7) ?_
        refine ev_r_iload_n (pc := 70) (k := 3) (v := Int32.ofInt a2) (by decide +kernel) (by exact e8) ?_
        refine ev_r_iload (pc := 71) (k := 4) (v := Int32.ofInt a3) (by decide +kernel) (by exact e9) ?_
        refine ev_r_iload (pc := 73) (k := 5) (v := Int32.ofInt a4) (by decide +kernel) (by exact e10) ?_
        refine ev_r_virt (pc := 75) (y := 732) (mi := 328) (na := 4) (k := 621) (as := [.int (Int32.ofInt a1), .int (Int32.ofInt a2), .int (Int32.ofInt a3), .int (Int32.ofInt a4)]) (rest := []) (encc := ev_oI) (Q := ev_rng) (fun x S1 h => jt_328 d (by omega) Q a1 a2 a3 a4 ha1 ha2 ha3 ha4 s12 x S1 h) (by exact ev_ob_621) (by decide +kernel) (by decide +kernel) (by decide +kernel) (by decide +kernel) rfl (by (try simp only [ev_sum, ev_nv_cat]); first | done | rfl) ?_
        intro x49 s48 hx49
        show ev_w _ _ _ _ _ [.int (Int32.ofInt x49)] _ _ _ _
        exact ev_r_ireturn (pc := 78) (x := x49) (v := Int32.ofInt x49) (ty := .int) hx49 (by decide +kernel) (by decide +kernel) rfl rfl
    · intro c14
      refine ev_r_iconst (pc := 62) (k := 0) (by decide +kernel) ?_
      exact ev_r_ireturn (pc := 63) (x := 0) (v := Int32.ofInt 0) (ty := .int) (by decide) (by decide +kernel) (by decide +kernel) rfl rfl
  · intro K52 hK52
    refine ev_r_jn (Q := fun K => ∀ (s57 : ev_St) (w50 : List (Nat × Value)), ev_lk w50 0 = some (.ref 621) → ev_lk w50 1 = some (.int (Int32.ofInt a0)) → ev_lk w50 2 = some (.int (Int32.ofInt a1)) → ev_lk w50 3 = some (.int (Int32.ofInt a2)) → ev_lk w50 4 = some (.int (Int32.ofInt a3)) → ev_lk w50 5 = some (.int (Int32.ofInt a4)) → ev_w none (ev_Mof 330) d 34 w50 [.ref 621] s57 (K  s57) ev_eI ev_rng) ?_ ?_
    · intro  s57 w50 e51 e52 e53 e54 e55 e56
      refine ev_r_iconst (pc := 34) (k := 1) (by decide +kernel) ?_
      refine ev_r_goto (pc := 35) (o := 17) (t := 52) (by decide +kernel) (by decide +kernel) ?_
      exact hK52 1 (by decide) s57 _ (by exact e51) (by exact e52) (by exact e53) (by exact e54) (by exact e55) (by exact e56)
    · intro K34 hK34
      refine ev_r_if (pc := 6) (q := .eq) (o := 28) (t := 34) (c := x2 = 0) (by decide +kernel) (ev_k_eq hx2 ev_rng0) (by decide +kernel) ?_ ?_
      · intro c58
        exact hK34  s1 _ (by rfl) (by rfl) (by rfl) (by rfl) (by rfl) (by rfl)
      · intro c58
        refine ev_r_aload_n (pc := 9) (k := 0) (v := .ref 621) trivial (by decide +kernel) (by rfl) ?_
        refine ev_r_iload_n (pc := 10) (k := 3) (v := Int32.ofInt a2) (by decide +kernel) (by rfl) ?_
        refine ev_r_iload (pc := 11) (k := 4) (v := Int32.ofInt a3) (by decide +kernel) (by rfl) ?_
        refine ev_r_virt (pc := 13) (y := 719) (mi := 326) (na := 2) (k := 621) (as := [.int (Int32.ofInt a2), .int (Int32.ofInt a3)]) (rest := [.ref 621]) (encc := ev_oI) (Q := ev_bl) (fun x S1 h => jt_326 d (by omega) Q a2 a3 ha2 ha3 s1 x S1 h) (by exact ev_ob_621) (by decide +kernel) (by decide +kernel) (by decide +kernel) (by decide +kernel) rfl (by (try simp only [ev_sum, ev_nv_cat]); first | done | rfl) ?_
        intro x60 s59 hx60
        replace hx60 := ev_bl_rng hx60
        show ev_w _ _ _ _ _ [.int (Int32.ofInt x60), .ref 621] _ _ _ _
        refine ev_r_if (pc := 16) (q := .eq) (o := 18) (t := 34) (c := x60 = 0) (by decide +kernel) (ev_k_eq hx60 ev_rng0) (by decide +kernel) ?_ ?_
        · intro c61
          exact hK34  s59 _ (by rfl) (by rfl) (by rfl) (by rfl) (by rfl) (by rfl)
        · intro c61
          refine ev_r_iload (pc := 19) (k := 5) (v := Int32.ofInt a4) (by decide +kernel) (by rfl) ?_
          refine ev_r_iconst (pc := 21) (k := 0) (by decide +kernel) ?_
          refine ev_r_aload_n (pc := 22) (k := 0) (v := .ref 621) trivial (by decide +kernel) (by rfl) ?_
          refine ev_r_getC (pc := 23) (y := 53) (ci := 13) (f := 17) (fin := 1) (k' := 636) (by decide +kernel) (by decide +kernel) (by exact ev_ob_621) rfl rfl ?_
          refine ev_r_iload_n (pc := 26) (k := 2) (v := Int32.ofInt a1) (by decide +kernel) (by rfl) ?_
          refine ev_r_iald (pc := 27) ha1 (by decide +kernel) (by exact ev_ab_636) ?_
          intro x62 hx62
          refine ev_r_stat (pc := 28) (y := 325) (kind := 2) (mi := 222) (na := 3) (as := [.int (Int32.ofInt a4), .int (Int32.ofInt 0), .int (Int32.ofInt x62)]) (rest := [.ref 621]) (encc := ev_oI) (Q := ev_bl) (fun x S1 h => jt_222 d (by omega) Q a4 0 x62 ha4 (by decide) hx62 s59 x S1 h) (Or.inl rfl) (by decide +kernel) (by decide +kernel) (by decide +kernel) (by decide +kernel) rfl (by (try simp only [ev_sum, ev_nv_cat]); first | done | rfl) ?_
          intro x64 s63 hx64
          replace hx64 := ev_bl_rng hx64
          show ev_w _ _ _ _ _ [.int (Int32.ofInt x64), .ref 621] _ _ _ _
          refine ev_r_if (pc := 31) (q := .ne) (o := 7) (t := 38) (c := x64 ≠ 0) (by decide +kernel) (ev_k_ne hx64 ev_rng0) (by decide +kernel) ?_ ?_
          · intro c65
            refine ev_r_iload_n (pc := 38) (k := 1) (v := Int32.ofInt a0) (by decide +kernel) (by rfl) ?_
            refine ev_r_iconst (pc := 39) (k := 0) (by decide +kernel) ?_
            refine ev_r_iconst (pc := 40) (k := 2) (by decide +kernel) ?_
            refine ev_r_stat (pc := 41) (y := 325) (kind := 2) (mi := 222) (na := 3) (as := [.int (Int32.ofInt a0), .int (Int32.ofInt 0), .int (Int32.ofInt 2)]) (rest := [.ref 621]) (encc := ev_oI) (Q := ev_bl) (fun x S1 h => jt_222 d (by omega) Q a0 0 2 ha0 (by decide) (by decide) s63 x S1 h) (Or.inl rfl) (by decide +kernel) (by decide +kernel) (by decide +kernel) (by decide +kernel) rfl (by (try simp only [ev_sum, ev_nv_cat]); first | done | rfl) ?_
            intro x67 s66 hx67
            replace hx67 := ev_bl_rng hx67
            show ev_w _ _ _ _ _ [.int (Int32.ofInt x67), .ref 621] _ _ _ _
            refine ev_r_if (pc := 44) (q := .eq) (o := 7) (t := 51) (c := x67 = 0) (by decide +kernel) (ev_k_eq hx67 ev_rng0) (by decide +kernel) ?_ ?_
            · intro c68
              refine ev_r_iconst (pc := 51) (k := 2) (by decide +kernel) ?_
              exact hK52 2 (by decide) s66 _ (by rfl) (by rfl) (by rfl) (by rfl) (by rfl) (by rfl)
            · intro c68
              refine ev_r_iconst (pc := 47) (k := 0) (by decide +kernel) ?_
              refine ev_r_goto (pc := 48) (o := 4) (t := 52) (by decide +kernel) (by decide +kernel) ?_
              exact hK52 0 (by decide) s66 _ (by rfl) (by rfl) (by rfl) (by rfl) (by rfl) (by rfl)
          · intro c65
            exact hK34  s63 _ (by rfl) (by rfl) (by rfl) (by rfl) (by rfl) (by rfl)
/-- MendBenchModel.steps(III)I -/
def jm_331 (Q : Nat) (a0 : Int) (a1 : Int) (a2 : Int) (S : ev_St) : Option ((Int) × ev_St) := ev_bd (jm_273 Q a0 S) fun x2 s1 => ev_jn (fun (x3 : Int) (s9 : ev_St) => ev_b (ev_pI s9 621 0 x3) fun s10 => ev_b (s10.1 621 0) fun x11 => if x11 ≤ 0 then (ev_bd (jm_288 Q a1 s10) fun _ s13 => ev_bd (jm_308 Q a0 a2 0 s13) fun x15 s14 => if x15 ≠ (-2) then (ev_b (s14.1 621 75) fun x17 => some (x17, s14)) else (some ((-2), s14))) else (some (0, s10))) fun K23 => ev_jn (fun  (s23 : ev_St) => K23 1 s23) fun K22 => if x2 = 0 then (K22  s1) else (ev_bd (jm_326 Q a1 a2 s1) fun x26 s25 => if x26 = 0 then (K22  s25) else (K23 0 s25))
theorem jt_331 (d : Nat) (hd : 10 ≤ d) (Q : Nat) (a0 : Int) (a1 : Int) (a2 : Int) (ha0 : ev_rng a0) (ha1 : ev_rng a1) (ha2 : ev_rng a2) (S : ev_St) (x : Int) (S' : ev_St) (hJ : jm_331 Q a0 a1 a2 S = some (x, S')) : ev_Ref d 331 [.ref 621, .int (Int32.ofInt a0), .int (Int32.ofInt a1), .int (Int32.ofInt a2)] S (ev_eI x) S' (ev_rng x) := by
  obtain ⟨d, rfl⟩ : ∃ e, d = e + 1 := ⟨d - 1, by omega⟩
  refine ev_ref_of (P := ev_rng) (lv := [(0, .ref 621), (1, .int (Int32.ofInt a0)), (2, .int (Int32.ofInt a1)), (3, .int (Int32.ofInt a2))]) (by decide +kernel) (by (try simp only [ev_sum, ev_nv_cat]); first | done | rfl) (by (try simp only [lv_args, ev_nv_cat]); first | done | rfl) ?_ x S' hJ
  unfold jm_331
  refine ev_r_aload_n (pc := 0) (k := 0) (v := .ref 621) trivial (by decide +kernel) (by rfl) ?_
  refine ev_r_aload_n (pc := 1) (k := 0) (v := .ref 621) trivial (by decide +kernel) (by rfl) ?_
  refine ev_r_iload_n (pc := 2) (k := 1) (v := Int32.ofInt a0) (by decide +kernel) (by rfl) ?_
  refine ev_r_virt (pc := 3) (y := 531) (mi := 273) (na := 1) (k := 621) (as := [.int (Int32.ofInt a0)]) (rest := [.ref 621]) (encc := ev_oI) (Q := ev_bl) (fun x S1 h => jt_273 d (by omega) Q a0 ha0 S x S1 h) (by exact ev_ob_621) (by decide +kernel) (by decide +kernel) (by decide +kernel) (by decide +kernel) rfl (by (try simp only [ev_sum, ev_nv_cat]); first | done | rfl) ?_
  intro x2 s1 hx2
  replace hx2 := ev_bl_rng hx2
  show ev_w _ _ _ _ _ [.int (Int32.ofInt x2), .ref 621] _ _ _ _
  refine ev_r_jn (Q := fun K => ∀ (x3 : Int) (hx3 : ev_rng x3), ∀ (s9 : ev_St) (w4 : List (Nat × Value)), ev_lk w4 0 = some (.ref 621) → ev_lk w4 1 = some (.int (Int32.ofInt a0)) → ev_lk w4 2 = some (.int (Int32.ofInt a1)) → ev_lk w4 3 = some (.int (Int32.ofInt a2)) → ev_w none (ev_Mof 331) d 23 w4 [.int (Int32.ofInt x3), .ref 621] s9 (K x3 s9) ev_eI ev_rng) ?_ ?_
  · intro x3 hx3 s9 w4 e5 e6 e7 e8
    refine ev_r_putI (pc := 23) (y := 321) (ci := 13) (f := 0) hx3 (by decide +kernel) (by decide +kernel) (by exact ev_ob_621) rfl rfl ?_
    intro s10
    refine ev_r_aload_n (pc := 26) (k := 0) (v := .ref 621) trivial (by decide +kernel) (by exact e5) ?_
    refine ev_r_getI (pc := 27) (y := 321) (ci := 13) (f := 0) (fin := 0) (by decide +kernel) (by decide +kernel) (by exact ev_ob_621) rfl ?_
    intro x11 hx11
    refine ev_r_if (pc := 30) (q := .le) (o := 5) (t := 35) (c := x11 ≤ 0) (by decide +kernel) (ev_k_le hx11 ev_rng0) (by decide +kernel) ?_ ?_
    · intro c12
      refine ev_r_aload_n (pc := 35) (k := 0) (v := .ref 621) trivial (by decide +kernel) (by exact e5) ?_
      refine ev_r_iload_n (pc := 36) (k := 2) (v := Int32.ofInt a1) (by decide +kernel) (by exact e7) ?_
      refine ev_r_virt (pc := 37) (y := 722) (mi := 288) (na := 1) (k := 621) (as := [.int (Int32.ofInt a1)]) (rest := []) (encc := ev_oU) (Q := ev_PU) (fun x S1 h => jt_288 d (by omega) Q a1 ha1 s10 x S1 h) (by exact ev_ob_621) (by decide +kernel) (by decide +kernel) (by decide +kernel) (by decide +kernel) rfl (by (try simp only [ev_sum, ev_nv_cat]); first | done | rfl) ?_
      intro _ s13 _
      show ev_w _ _ _ _ _ [] _ _ _ _
      refine ev_r_aload_n (pc := 40) (k := 0) (v := .ref 621) trivial (by decide +kernel) (by exact e5) ?_
      refine ev_r_iload_n (pc := 41) (k := 1) (v := Int32.ofInt a0) (by decide +kernel) (by exact e6) ?_
      refine ev_r_iload_n (pc := 42) (k := 3) (v := Int32.ofInt a2) (by decide +kernel) (by exact e8) ?_
      refine ev_r_iconst (pc := 43) (k := 0) (by decide +kernel) ?_
      refine ev_r_virt (pc := 44) (y := 725) (mi := 308) (na := 3) (k := 621) (as := [.int (Int32.ofInt a0), .int (Int32.ofInt a2), .int (Int32.ofInt 0)]) (rest := []) (encc := ev_oI) (Q := ev_rng) (fun x S1 h => jt_308 d (by omega) Q a0 a2 0 ha0 ha2 (by decide) s13 x S1 h) (by exact ev_ob_621) (by decide +kernel) (by decide +kernel) (by decide +kernel) (by decide +kernel) rfl (by (try simp only [ev_sum, ev_nv_cat]); first | done | rfl) ?_
      intro x15 s14 hx15
      show ev_w _ _ _ _ _ [.int (Int32.ofInt x15)] _ _ _ _
      refine ev_r_bipush (pc := 47) (k := -2) (by decide +kernel) (by decide +kernel) ?_
      refine ev_r_icmp (pc := 49) (q := .ne) (o := 8) (t := 57) (c := x15 ≠ (-2)) (by decide +kernel) (ev_k_ne hx15 (by decide)) (by decide +kernel) ?_ ?_
      · intro c16
        refine ev_r_aload_n (pc := 57) (k := 0) (v := .ref 621) trivial (by decide +kernel) (by exact e5) ?_
        refine ev_r_getI (pc := 58) (y := 570) (ci := 13) (f := 75) (fin := 0) (by decide +kernel) (by decide +kernel) (by exact ev_ob_621) rfl ?_
        intro x17 hx17
        exact ev_r_ireturn (pc := 61) (x := x17) (v := Int32.ofInt x17) (ty := .int) hx17 (by decide +kernel) (by decide +kernel) rfl rfl
      · intro c16
        refine ev_r_bipush (pc := 52) (k := -2) (by decide +kernel) (by decide +kernel) ?_
        refine ev_r_goto (pc := 54) (o := 7) (t := 61) (by decide +kernel) (by decide +kernel) ?_
        exact ev_r_ireturn (pc := 61) (x := (-2)) (v := Int32.ofInt ((-2))) (ty := .int) (by decide) (by decide +kernel) (by decide +kernel) rfl rfl
    · intro c12
      refine ev_r_iconst (pc := 33) (k := 0) (by decide +kernel) ?_
      exact ev_r_ireturn (pc := 34) (x := 0) (v := Int32.ofInt 0) (ty := .int) (by decide) (by decide +kernel) (by decide +kernel) rfl rfl
  · intro K23 hK23
    refine ev_r_jn (Q := fun K => ∀ (s23 : ev_St) (w18 : List (Nat × Value)), ev_lk w18 0 = some (.ref 621) → ev_lk w18 1 = some (.int (Int32.ofInt a0)) → ev_lk w18 2 = some (.int (Int32.ofInt a1)) → ev_lk w18 3 = some (.int (Int32.ofInt a2)) → ev_w none (ev_Mof 331) d 22 w18 [.ref 621] s23 (K  s23) ev_eI ev_rng) ?_ ?_
    · intro  s23 w18 e19 e20 e21 e22
      refine ev_r_iconst (pc := 22) (k := 1) (by decide +kernel) ?_
      exact hK23 1 (by decide) s23 _ (by exact e19) (by exact e20) (by exact e21) (by exact e22)
    · intro K22 hK22
      refine ev_r_if (pc := 6) (q := .eq) (o := 16) (t := 22) (c := x2 = 0) (by decide +kernel) (ev_k_eq hx2 ev_rng0) (by decide +kernel) ?_ ?_
      · intro c24
        exact hK22  s1 _ (by rfl) (by rfl) (by rfl) (by rfl)
      · intro c24
        refine ev_r_aload_n (pc := 9) (k := 0) (v := .ref 621) trivial (by decide +kernel) (by rfl) ?_
        refine ev_r_iload_n (pc := 10) (k := 2) (v := Int32.ofInt a1) (by decide +kernel) (by rfl) ?_
        refine ev_r_iload_n (pc := 11) (k := 3) (v := Int32.ofInt a2) (by decide +kernel) (by rfl) ?_
        refine ev_r_virt (pc := 12) (y := 719) (mi := 326) (na := 2) (k := 621) (as := [.int (Int32.ofInt a1), .int (Int32.ofInt a2)]) (rest := [.ref 621]) (encc := ev_oI) (Q := ev_bl) (fun x S1 h => jt_326 d (by omega) Q a1 a2 ha1 ha2 s1 x S1 h) (by exact ev_ob_621) (by decide +kernel) (by decide +kernel) (by decide +kernel) (by decide +kernel) rfl (by (try simp only [ev_sum, ev_nv_cat]); first | done | rfl) ?_
        intro x26 s25 hx26
        replace hx26 := ev_bl_rng hx26
        show ev_w _ _ _ _ _ [.int (Int32.ofInt x26), .ref 621] _ _ _ _
        refine ev_r_if (pc := 15) (q := .eq) (o := 7) (t := 22) (c := x26 = 0) (by decide +kernel) (ev_k_eq hx26 ev_rng0) (by decide +kernel) ?_ ?_
        · intro c27
          exact hK22  s25 _ (by rfl) (by rfl) (by rfl) (by rfl)
        · intro c27
          refine ev_r_iconst (pc := 18) (k := 0) (by decide +kernel) ?_
          refine ev_r_goto (pc := 19) (o := 4) (t := 23) (by decide +kernel) (by decide +kernel) ?_
          exact hK23 0 (by decide) s25 _ (by rfl) (by rfl) (by rfl) (by rfl)
/-- MendBenchModel.back(III)I -/
def jm_332 (Q : Nat) (a0 : Int) (a1 : Int) (a2 : Int) (S : ev_St) : Option ((Int) × ev_St) := ev_bd (jm_273 Q a0 S) fun x2 s1 => ev_jn (fun (x3 : Int) (s9 : ev_St) => ev_b (ev_pI s9 621 0 x3) fun s10 => ev_b (s10.1 621 0) fun x11 => if x11 ≤ 0 then (ev_bd (jm_288 Q a1 s10) fun _ s13 => ev_bd (jm_308 Q a0 a2 1 s13) fun x15 s14 => ev_bd (jm_327 Q x15 0 s14) fun x17 s16 => some (x17, s16)) else (some (0, s10))) fun K23 => ev_jn (fun  (s23 : ev_St) => K23 1 s23) fun K22 => if x2 = 0 then (K22  s1) else (ev_bd (jm_326 Q a1 a2 s1) fun x26 s25 => if x26 = 0 then (K22  s25) else (K23 0 s25))
theorem jt_332 (d : Nat) (hd : 10 ≤ d) (Q : Nat) (a0 : Int) (a1 : Int) (a2 : Int) (ha0 : ev_rng a0) (ha1 : ev_rng a1) (ha2 : ev_rng a2) (S : ev_St) (x : Int) (S' : ev_St) (hJ : jm_332 Q a0 a1 a2 S = some (x, S')) : ev_Ref d 332 [.ref 621, .int (Int32.ofInt a0), .int (Int32.ofInt a1), .int (Int32.ofInt a2)] S (ev_eI x) S' (ev_rng x) := by
  obtain ⟨d, rfl⟩ : ∃ e, d = e + 1 := ⟨d - 1, by omega⟩
  refine ev_ref_of (P := ev_rng) (lv := [(0, .ref 621), (1, .int (Int32.ofInt a0)), (2, .int (Int32.ofInt a1)), (3, .int (Int32.ofInt a2))]) (by decide +kernel) (by (try simp only [ev_sum, ev_nv_cat]); first | done | rfl) (by (try simp only [lv_args, ev_nv_cat]); first | done | rfl) ?_ x S' hJ
  unfold jm_332
  refine ev_r_aload_n (pc := 0) (k := 0) (v := .ref 621) trivial (by decide +kernel) (by rfl) ?_
  refine ev_r_aload_n (pc := 1) (k := 0) (v := .ref 621) trivial (by decide +kernel) (by rfl) ?_
  refine ev_r_iload_n (pc := 2) (k := 1) (v := Int32.ofInt a0) (by decide +kernel) (by rfl) ?_
  refine ev_r_virt (pc := 3) (y := 531) (mi := 273) (na := 1) (k := 621) (as := [.int (Int32.ofInt a0)]) (rest := [.ref 621]) (encc := ev_oI) (Q := ev_bl) (fun x S1 h => jt_273 d (by omega) Q a0 ha0 S x S1 h) (by exact ev_ob_621) (by decide +kernel) (by decide +kernel) (by decide +kernel) (by decide +kernel) rfl (by (try simp only [ev_sum, ev_nv_cat]); first | done | rfl) ?_
  intro x2 s1 hx2
  replace hx2 := ev_bl_rng hx2
  show ev_w _ _ _ _ _ [.int (Int32.ofInt x2), .ref 621] _ _ _ _
  refine ev_r_jn (Q := fun K => ∀ (x3 : Int) (hx3 : ev_rng x3), ∀ (s9 : ev_St) (w4 : List (Nat × Value)), ev_lk w4 0 = some (.ref 621) → ev_lk w4 1 = some (.int (Int32.ofInt a0)) → ev_lk w4 2 = some (.int (Int32.ofInt a1)) → ev_lk w4 3 = some (.int (Int32.ofInt a2)) → ev_w none (ev_Mof 332) d 23 w4 [.int (Int32.ofInt x3), .ref 621] s9 (K x3 s9) ev_eI ev_rng) ?_ ?_
  · intro x3 hx3 s9 w4 e5 e6 e7 e8
    refine ev_r_putI (pc := 23) (y := 321) (ci := 13) (f := 0) hx3 (by decide +kernel) (by decide +kernel) (by exact ev_ob_621) rfl rfl ?_
    intro s10
    refine ev_r_aload_n (pc := 26) (k := 0) (v := .ref 621) trivial (by decide +kernel) (by exact e5) ?_
    refine ev_r_getI (pc := 27) (y := 321) (ci := 13) (f := 0) (fin := 0) (by decide +kernel) (by decide +kernel) (by exact ev_ob_621) rfl ?_
    intro x11 hx11
    refine ev_r_if (pc := 30) (q := .le) (o := 5) (t := 35) (c := x11 ≤ 0) (by decide +kernel) (ev_k_le hx11 ev_rng0) (by decide +kernel) ?_ ?_
    · intro c12
      refine ev_r_aload_n (pc := 35) (k := 0) (v := .ref 621) trivial (by decide +kernel) (by exact e5) ?_
      refine ev_r_iload_n (pc := 36) (k := 2) (v := Int32.ofInt a1) (by decide +kernel) (by exact e7) ?_
      refine ev_r_virt (pc := 37) (y := 722) (mi := 288) (na := 1) (k := 621) (as := [.int (Int32.ofInt a1)]) (rest := []) (encc := ev_oU) (Q := ev_PU) (fun x S1 h => jt_288 d (by omega) Q a1 ha1 s10 x S1 h) (by exact ev_ob_621) (by decide +kernel) (by decide +kernel) (by decide +kernel) (by decide +kernel) rfl (by (try simp only [ev_sum, ev_nv_cat]); first | done | rfl) ?_
      intro _ s13 _
      show ev_w _ _ _ _ _ [] _ _ _ _
      refine ev_r_aload_n (pc := 40) (k := 0) (v := .ref 621) trivial (by decide +kernel) (by exact e5) ?_
      refine ev_r_aload_n (pc := 41) (k := 0) (v := .ref 621) trivial (by decide +kernel) (by exact e5) ?_
      refine ev_r_iload_n (pc := 42) (k := 1) (v := Int32.ofInt a0) (by decide +kernel) (by exact e6) ?_
      refine ev_r_iload_n (pc := 43) (k := 3) (v := Int32.ofInt a2) (by decide +kernel) (by exact e8) ?_
      refine ev_r_iconst (pc := 44) (k := 1) (by decide +kernel) ?_
      refine ev_r_virt (pc := 45) (y := 725) (mi := 308) (na := 3) (k := 621) (as := [.int (Int32.ofInt a0), .int (Int32.ofInt a2), .int (Int32.ofInt 1)]) (rest := [.ref 621]) (encc := ev_oI) (Q := ev_rng) (fun x S1 h => jt_308 d (by omega) Q a0 a2 1 ha0 ha2 (by decide) s13 x S1 h) (by exact ev_ob_621) (by decide +kernel) (by decide +kernel) (by decide +kernel) (by decide +kernel) rfl (by (try simp only [ev_sum, ev_nv_cat]); first | done | rfl) ?_
      intro x15 s14 hx15
      show ev_w _ _ _ _ _ [.int (Int32.ofInt x15), .ref 621] _ _ _ _
      refine ev_r_iconst (pc := 48) (k := 0) (by decide +kernel) ?_
      refine ev_r_virt (pc := 49) (y := 729) (mi := 327) (na := 2) (k := 621) (as := [.int (Int32.ofInt x15), .int (Int32.ofInt 0)]) (rest := []) (encc := ev_oI) (Q := ev_rng) (fun x S1 h => jt_327 d (by omega) Q x15 0 hx15 (by decide) s14 x S1 h) (by exact ev_ob_621) (by decide +kernel) (by decide +kernel) (by decide +kernel) (by decide +kernel) rfl (by (try simp only [ev_sum, ev_nv_cat]); first | done | rfl) ?_
      intro x17 s16 hx17
      show ev_w _ _ _ _ _ [.int (Int32.ofInt x17)] _ _ _ _
      exact ev_r_ireturn (pc := 52) (x := x17) (v := Int32.ofInt x17) (ty := .int) hx17 (by decide +kernel) (by decide +kernel) rfl rfl
    · intro c12
      refine ev_r_iconst (pc := 33) (k := 0) (by decide +kernel) ?_
      exact ev_r_ireturn (pc := 34) (x := 0) (v := Int32.ofInt 0) (ty := .int) (by decide) (by decide +kernel) (by decide +kernel) rfl rfl
  · intro K23 hK23
    refine ev_r_jn (Q := fun K => ∀ (s23 : ev_St) (w18 : List (Nat × Value)), ev_lk w18 0 = some (.ref 621) → ev_lk w18 1 = some (.int (Int32.ofInt a0)) → ev_lk w18 2 = some (.int (Int32.ofInt a1)) → ev_lk w18 3 = some (.int (Int32.ofInt a2)) → ev_w none (ev_Mof 332) d 22 w18 [.ref 621] s23 (K  s23) ev_eI ev_rng) ?_ ?_
    · intro  s23 w18 e19 e20 e21 e22
      refine ev_r_iconst (pc := 22) (k := 1) (by decide +kernel) ?_
      exact hK23 1 (by decide) s23 _ (by exact e19) (by exact e20) (by exact e21) (by exact e22)
    · intro K22 hK22
      refine ev_r_if (pc := 6) (q := .eq) (o := 16) (t := 22) (c := x2 = 0) (by decide +kernel) (ev_k_eq hx2 ev_rng0) (by decide +kernel) ?_ ?_
      · intro c24
        exact hK22  s1 _ (by rfl) (by rfl) (by rfl) (by rfl)
      · intro c24
        refine ev_r_aload_n (pc := 9) (k := 0) (v := .ref 621) trivial (by decide +kernel) (by rfl) ?_
        refine ev_r_iload_n (pc := 10) (k := 2) (v := Int32.ofInt a1) (by decide +kernel) (by rfl) ?_
        refine ev_r_iload_n (pc := 11) (k := 3) (v := Int32.ofInt a2) (by decide +kernel) (by rfl) ?_
        refine ev_r_virt (pc := 12) (y := 719) (mi := 326) (na := 2) (k := 621) (as := [.int (Int32.ofInt a1), .int (Int32.ofInt a2)]) (rest := [.ref 621]) (encc := ev_oI) (Q := ev_bl) (fun x S1 h => jt_326 d (by omega) Q a1 a2 ha1 ha2 s1 x S1 h) (by exact ev_ob_621) (by decide +kernel) (by decide +kernel) (by decide +kernel) (by decide +kernel) rfl (by (try simp only [ev_sum, ev_nv_cat]); first | done | rfl) ?_
        intro x26 s25 hx26
        replace hx26 := ev_bl_rng hx26
        show ev_w _ _ _ _ _ [.int (Int32.ofInt x26), .ref 621] _ _ _ _
        refine ev_r_if (pc := 15) (q := .eq) (o := 7) (t := 22) (c := x26 = 0) (by decide +kernel) (ev_k_eq hx26 ev_rng0) (by decide +kernel) ?_ ?_
        · intro c27
          exact hK22  s25 _ (by rfl) (by rfl) (by rfl) (by rfl)
        · intro c27
          refine ev_r_iconst (pc := 18) (k := 0) (by decide +kernel) ?_
          refine ev_r_goto (pc := 19) (o := 4) (t := 23) (by decide +kernel) (by decide +kernel) ?_
          exact hK23 0 (by decide) s25 _ (by rfl) (by rfl) (by rfl) (by rfl)
/-- MendBenchModel.behindOf()I -/
def jm_333 (Q : Nat)  (S : ev_St) : Option ((Int) × ev_St) := ev_if ((0 : Int) ≤ 0 ∧ 0 < (ev_aln 680 : Int)) (ev_b (S.1 680 (Int.toNat 0)) fun x1 => ev_if ((0 : Int) ≤ 0 ∧ 0 < (ev_aln 679 : Int)) (ev_b (S.1 679 (Int.toNat 0)) fun x2 => ev_jn (fun (x3 : Int) (s6 : ev_St) => ev_b (s6.1 621 73) fun x7 => if x3 ≤ x7 then (some (x3, s6)) else (some ((-1), s6))) fun K32 => if x1 ≤ x2 then (ev_if ((0 : Int) ≤ 0 ∧ 0 < (ev_aln 680 : Int)) (ev_b (S.1 680 (Int.toNat 0)) fun x10 => ev_ck (x10 + 1) fun x11 => K32 x11 S)) else (ev_if ((0 : Int) ≤ 0 ∧ 0 < (ev_aln 680 : Int)) (ev_b (S.1 680 (Int.toNat 0)) fun x12 => K32 x12 S))))
theorem jt_333 (d : Nat) (hd : 1 ≤ d) (Q : Nat)   (S : ev_St) (x : Int) (S' : ev_St) (hJ : jm_333 Q  S = some (x, S')) : ev_Ref d 333 [.ref 621] S (ev_eI x) S' (ev_rng x) := by
  obtain ⟨d, rfl⟩ : ∃ e, d = e + 1 := ⟨d - 1, by omega⟩
  refine ev_ref_of (P := ev_rng) (lv := [(0, .ref 621)]) (by decide +kernel) (by (try simp only [ev_sum, ev_nv_cat]); first | done | rfl) (by (try simp only [lv_args, ev_nv_cat]); first | done | rfl) ?_ x S' hJ
  unfold jm_333
  refine ev_r_aload_n (pc := 0) (k := 0) (v := .ref 621) trivial (by decide +kernel) (by rfl) ?_
  refine ev_r_getC (pc := 1) (y := 187) (ci := 13) (f := 87) (fin := 1) (k' := 680) (by decide +kernel) (by decide +kernel) (by exact ev_ob_621) rfl rfl ?_
  refine ev_r_iconst (pc := 4) (k := 0) (by decide +kernel) ?_
  refine ev_r_iald (pc := 5) (by decide) (by decide +kernel) (by exact ev_ab_680) ?_
  intro x1 hx1
  refine ev_r_aload_n (pc := 6) (k := 0) (v := .ref 621) trivial (by decide +kernel) (by rfl) ?_
  refine ev_r_getC (pc := 7) (y := 184) (ci := 13) (f := 86) (fin := 1) (k' := 679) (by decide +kernel) (by decide +kernel) (by exact ev_ob_621) rfl rfl ?_
  refine ev_r_iconst (pc := 10) (k := 0) (by decide +kernel) ?_
  refine ev_r_iald (pc := 11) (by decide) (by decide +kernel) (by exact ev_ab_679) ?_
  intro x2 hx2
  refine ev_r_jn (Q := fun K => ∀ (x3 : Int) (hx3 : ev_rng x3), ∀ (s6 : ev_St) (w4 : List (Nat × Value)), ev_lk w4 0 = some (.ref 621) → ev_w none (ev_Mof 333) d 32 w4 [.int (Int32.ofInt x3)] s6 (K x3 s6) ev_eI ev_rng) ?_ ?_
  · intro x3 hx3 s6 w4 e5
    refine ev_r_istore_n (pc := 32) (k := 1) (by decide +kernel) (by decide +kernel) rfl ?_
    refine ev_r_iload_n (pc := 33) (k := 1) (v := Int32.ofInt x3) (by decide +kernel) (by exact ev_lk_st1_self) ?_
    refine ev_r_aload_n (pc := 34) (k := 0) (v := .ref 621) trivial (by decide +kernel) (by exact (ev_lk_st1 e5 (by decide) rfl)) ?_
    refine ev_r_getI (pc := 35) (y := 567) (ci := 13) (f := 73) (fin := 0) (by decide +kernel) (by decide +kernel) (by exact ev_ob_621) rfl ?_
    intro x7 hx7
    refine ev_r_icmp (pc := 38) (q := .le) (o := 7) (t := 45) (c := x3 ≤ x7) (by decide +kernel) (ev_k_le hx3 hx7) (by decide +kernel) ?_ ?_
    · intro c8
      refine ev_r_iload_n (pc := 45) (k := 1) (v := Int32.ofInt x3) (by decide +kernel) (by exact ev_lk_st1_self) ?_
      exact ev_r_ireturn (pc := 46) (x := x3) (v := Int32.ofInt x3) (ty := .int) hx3 (by decide +kernel) (by decide +kernel) rfl rfl
    · intro c8
      refine ev_r_iconst (pc := 41) (k := -1) (by decide +kernel) ?_
      refine ev_r_goto (pc := 42) (o := 4) (t := 46) (by decide +kernel) (by decide +kernel) ?_
      exact ev_r_ireturn (pc := 46) (x := (-1)) (v := Int32.ofInt ((-1))) (ty := .int) (by decide) (by decide +kernel) (by decide +kernel) rfl rfl
  · intro K32 hK32
    refine ev_r_icmp (pc := 12) (q := .le) (o := 12) (t := 24) (c := x1 ≤ x2) (by decide +kernel) (ev_k_le hx1 hx2) (by decide +kernel) ?_ ?_
    · intro c9
      refine ev_r_aload_n (pc := 24) (k := 0) (v := .ref 621) trivial (by decide +kernel) (by rfl) ?_
      refine ev_r_getC (pc := 25) (y := 187) (ci := 13) (f := 87) (fin := 1) (k' := 680) (by decide +kernel) (by decide +kernel) (by exact ev_ob_621) rfl rfl ?_
      refine ev_r_iconst (pc := 28) (k := 0) (by decide +kernel) ?_
      refine ev_r_iald (pc := 29) (by decide) (by decide +kernel) (by exact ev_ab_680) ?_
      intro x10 hx10
      refine ev_r_iconst (pc := 30) (k := 1) (by decide +kernel) ?_
      refine ev_r_iadd (pc := 31) (by decide +kernel) ?_
      intro x11 hx11
      exact hK32 x11 hx11 S _ (by rfl)
    · intro c9
      refine ev_r_aload_n (pc := 15) (k := 0) (v := .ref 621) trivial (by decide +kernel) (by rfl) ?_
      refine ev_r_getC (pc := 16) (y := 187) (ci := 13) (f := 87) (fin := 1) (k' := 680) (by decide +kernel) (by decide +kernel) (by exact ev_ob_621) rfl rfl ?_
      refine ev_r_iconst (pc := 19) (k := 0) (by decide +kernel) ?_
      refine ev_r_iald (pc := 20) (by decide) (by decide +kernel) (by exact ev_ab_680) ?_
      intro x12 hx12
      refine ev_r_goto (pc := 21) (o := 11) (t := 32) (by decide +kernel) (by decide +kernel) ?_
      exact hK32 x12 hx12 S _ (by rfl)
def jb_334_44 (Q : Nat) (a0 : Int)  (K44 : Int → Int → ev_St → Option ((Int) × ev_St)) (x13 : Int) (x14 : Int) (s20 : ev_St) : Option ((Int) × ev_St) := if x14 = (-1) then (some (x13, s20)) else (ev_bd (jm_308 Q a0 x14 0 s20) fun x23 s22 => if x23 ≠ (-2) then (ev_ck (x13 + x23) fun x25 => ev_jn (fun (x26 : Int) (x27 : Int) (s32 : ev_St) => K44 x26 x27 s32) fun K89 => if x23 ≠ 1 then (K89 x25 ((-1)) s22) else (ev_bd (jm_333 Q  s22) fun x35 s34 => K89 x25 x35 s34)) else (some ((-2), s22)))
def jl_334_44 (Q : Nat) (a0 : Int)  : Nat → Int → Int → ev_St → Option ((Int) × ev_St)
  | 0 => fun _ _ _ => none
  | q + 1 => jb_334_44 Q a0  (jl_334_44 Q a0  q)
theorem jbt_334_44 (d : Nat) (hd : 10 ≤ d + 1) (Q : Nat) (a0 : Int) (ha0 : ev_rng a0)   (K44 : Int → Int → ev_St → Option ((Int) × ev_St)) (hK44 : ∀ (x13 : Int) (hx13 : ev_rng x13), ∀ (x14 : Int) (hx14 : ev_rng x14), ∀ (s20 : ev_St) (w15 : List (Nat × Value)), ev_lk w15 0 = some (.ref 621) → ev_lk w15 1 = some (.int (Int32.ofInt a0)) → ev_lk w15 3 = some (.int (Int32.ofInt x13)) → ev_lk w15 4 = some (.int (Int32.ofInt x14)) → ev_w none (ev_Mof 334) d 44 w15 [] s20 (K44 x13 x14 s20) ev_eI ev_rng) : ∀ (x13 : Int) (hx13 : ev_rng x13), ∀ (x14 : Int) (hx14 : ev_rng x14), ∀ (s20 : ev_St) (w15 : List (Nat × Value)), ev_lk w15 0 = some (.ref 621) → ev_lk w15 1 = some (.int (Int32.ofInt a0)) → ev_lk w15 3 = some (.int (Int32.ofInt x13)) → ev_lk w15 4 = some (.int (Int32.ofInt x14)) → ev_w none (ev_Mof 334) d 44 w15 [] s20 (jb_334_44 Q a0  K44 x13 x14 s20) ev_eI ev_rng := by
  intro x13 hx13 x14 hx14 s20 w15 e16 e17 e18 e19
  unfold jb_334_44
  refine ev_r_iload (pc := 44) (k := 4) (v := Int32.ofInt x14) (by decide +kernel) (by exact e19) ?_
  refine ev_r_iconst (pc := 46) (k := -1) (by decide +kernel) ?_
  refine ev_r_icmp (pc := 47) (q := .eq) (o := 47) (t := 94) (c := x14 = (-1)) (by decide +kernel) (ev_k_eq hx14 (by decide)) (by decide +kernel) ?_ ?_
  · intro c21
    refine ev_r_iload_n (pc := 94) (k := 3) (v := Int32.ofInt x13) (by decide +kernel) (by exact e18) ?_
    exact ev_r_ireturn (pc := 95) (x := x13) (v := Int32.ofInt x13) (ty := .int) hx13 (by decide +kernel) (by decide +kernel) rfl rfl
  · intro c21
    refine ev_r_aload_n (pc := 50) (k := 0) (v := .ref 621) trivial (by decide +kernel) (by exact e16) ?_
    refine ev_r_iload_n (pc := 51) (k := 1) (v := Int32.ofInt a0) (by decide +kernel) (by exact e17) ?_
    refine ev_r_iload (pc := 52) (k := 4) (v := Int32.ofInt x14) (by decide +kernel) (by exact e19) ?_
    refine ev_r_iconst (pc := 54) (k := 0) (by decide +kernel) ?_
    refine ev_r_virt (pc := 55) (y := 725) (mi := 308) (na := 3) (k := 621) (as := [.int (Int32.ofInt a0), .int (Int32.ofInt x14), .int (Int32.ofInt 0)]) (rest := []) (encc := ev_oI) (Q := ev_rng) (fun x S1 h => jt_308 d (by omega) Q a0 x14 0 ha0 hx14 (by decide) s20 x S1 h) (by exact ev_ob_621) (by decide +kernel) (by decide +kernel) (by decide +kernel) (by decide +kernel) rfl (by (try simp only [ev_sum, ev_nv_cat]); first | done | rfl) ?_
    intro x23 s22 hx23
    show ev_w _ _ _ _ _ [.int (Int32.ofInt x23)] _ _ _ _
    refine ev_r_istore (pc := 58) (k := 5) (by decide +kernel) (by decide +kernel) rfl ?_
    refine ev_r_iload (pc := 60) (k := 5) (v := Int32.ofInt x23) (by decide +kernel) (by exact ev_lk_st1_self) ?_
    refine ev_r_bipush (pc := 62) (k := -2) (by decide +kernel) (by decide +kernel) ?_
    refine ev_r_icmp (pc := 64) (q := .ne) (o := 6) (t := 70) (c := x23 ≠ (-2)) (by decide +kernel) (ev_k_ne hx23 (by decide)) (by decide +kernel) ?_ ?_
    · intro c24
      refine ev_r_iload_n (pc := 70) (k := 3) (v := Int32.ofInt x13) (by decide +kernel) (by exact (ev_l1 e18 (by decide) (by decide))) ?_
      refine ev_r_iload (pc := 71) (k := 5) (v := Int32.ofInt x23) (by decide +kernel) (by exact ev_lk_st1_self) ?_
      refine ev_r_iadd (pc := 73) (by decide +kernel) ?_
      intro x25 hx25
      refine ev_r_istore_n (pc := 74) (k := 3) (by decide +kernel) (by decide +kernel) rfl ?_
      refine ev_r_iload (pc := 75) (k := 5) (v := Int32.ofInt x23) (by decide +kernel) (by exact (ev_l1 ev_lk_st1_self (by decide) (by decide))) ?_
      refine ev_r_iconst (pc := 77) (k := 1) (by decide +kernel) ?_
      refine ev_r_jn (Q := fun K => ∀ (x26 : Int) (hx26 : ev_rng x26), ∀ (x27 : Int) (hx27 : ev_rng x27), ∀ (s32 : ev_St) (w28 : List (Nat × Value)), ev_lk w28 0 = some (.ref 621) → ev_lk w28 1 = some (.int (Int32.ofInt a0)) → ev_lk w28 3 = some (.int (Int32.ofInt x26)) → ev_w none (ev_Mof 334) d 89 w28 [.int (Int32.ofInt x27)] s32 (K x26 x27 s32) ev_eI ev_rng) ?_ ?_
      · intro x26 hx26 x27 hx27 s32 w28 e29 e30 e31
        refine ev_r_istore (pc := 89) (k := 4) (by decide +kernel) (by decide +kernel) rfl ?_
        refine ev_r_goto (pc := 91) (o := (-47)) (t := 44) (by decide +kernel) (by decide +kernel) ?_
        exact hK44 x26 hx26 x27 hx27 s32 _ (by exact (ev_l1 e29 (by decide) (by decide))) (by exact (ev_l1 e30 (by decide) (by decide))) (by exact (ev_lk_st1 e31 (by decide) rfl)) (by exact ev_lk_st1_self)
      · intro K89 hK89
        refine ev_r_icmp (pc := 78) (q := .ne) (o := 10) (t := 88) (c := x23 ≠ 1) (by decide +kernel) (ev_k_ne hx23 (by decide)) (by decide +kernel) ?_ ?_
        · intro c33
          refine ev_r_iconst (pc := 88) (k := -1) (by decide +kernel) ?_
          exact hK89 x25 hx25 ((-1)) (by decide) s22 _ (by exact (ev_l1 (ev_l1 e16 (by decide) (by decide)) (by decide) (by decide))) (by exact (ev_l1 (ev_l1 e17 (by decide) (by decide)) (by decide) (by decide))) (by exact ev_lk_st1_self)
        · intro c33
          refine ev_r_aload_n (pc := 81) (k := 0) (v := .ref 621) trivial (by decide +kernel) (by exact (ev_l1 (ev_l1 e16 (by decide) (by decide)) (by decide) (by decide))) ?_
          refine ev_r_virt (pc := 82) (y := 738) (mi := 333) (na := 0) (k := 621) (as := []) (rest := []) (encc := ev_oI) (Q := ev_rng) (fun x S1 h => jt_333 d (by omega) Q   s22 x S1 h) (by exact ev_ob_621) (by decide +kernel) (by decide +kernel) (by decide +kernel) (by decide +kernel) rfl (by (try simp only [ev_sum, ev_nv_cat]); first | done | rfl) ?_
          intro x35 s34 hx35
          show ev_w _ _ _ _ _ [.int (Int32.ofInt x35)] _ _ _ _
          refine ev_r_goto (pc := 85) (o := 4) (t := 89) (by decide +kernel) (by decide +kernel) ?_
          exact hK89 x25 hx25 x35 hx35 s34 _ (by exact (ev_l1 (ev_l1 e16 (by decide) (by decide)) (by decide) (by decide))) (by exact (ev_l1 (ev_l1 e17 (by decide) (by decide)) (by decide) (by decide))) (by exact ev_lk_st1_self)
    · intro c24
      refine ev_r_bipush (pc := 67) (k := -2) (by decide +kernel) (by decide +kernel) ?_
      exact ev_r_ireturn (pc := 69) (x := (-2)) (v := Int32.ofInt ((-2))) (ty := .int) (by decide) (by decide +kernel) (by decide +kernel) rfl rfl
theorem jlt_334_44 (d : Nat) (hd : 10 ≤ d + 1) (Q : Nat) (a0 : Int) (ha0 : ev_rng a0)   : ∀ q : Nat, ∀ (x13 : Int) (hx13 : ev_rng x13), ∀ (x14 : Int) (hx14 : ev_rng x14), ∀ (s20 : ev_St) (w15 : List (Nat × Value)), ev_lk w15 0 = some (.ref 621) → ev_lk w15 1 = some (.int (Int32.ofInt a0)) → ev_lk w15 3 = some (.int (Int32.ofInt x13)) → ev_lk w15 4 = some (.int (Int32.ofInt x14)) → ev_w none (ev_Mof 334) d 44 w15 [] s20 (jl_334_44 Q a0  q x13 x14 s20) ev_eI ev_rng := by
  intro q
  induction q with
  | zero =>
    intro x13 hx13 x14 hx14 s20 w15 e16 e17 e18 e19
    exact ev_w_none
  | succ q ih => exact jbt_334_44 d hd Q a0 ha0   _ ih
/-- MendBenchModel.matches(II)I -/
def jm_334 (Q : Nat) (a0 : Int) (a1 : Int) (S : ev_St) : Option ((Int) × ev_St) := ev_bd (jm_273 Q a0 S) fun x2 s1 => ev_jn (fun (x3 : Int) (s8 : ev_St) => ev_b (ev_pI s8 621 0 x3) fun s9 => ev_b (s9.1 621 0) fun x10 => if x10 ≤ 0 then (ev_bd (jm_288 Q a1 s9) fun _ s12 => jl_334_44 Q a0  Q 0 0 s12) else (some (0, s9))) fun K22 => ev_jn (fun  (s40 : ev_St) => K22 1 s40) fun K21 => if x2 = 0 then (K21  s1) else (ev_bd (jm_325 Q a1 s1) fun x43 s42 => if x43 = 0 then (K21  s42) else (K22 0 s42))
theorem jt_334 (d : Nat) (hd : 10 ≤ d) (Q : Nat) (a0 : Int) (a1 : Int) (ha0 : ev_rng a0) (ha1 : ev_rng a1) (S : ev_St) (x : Int) (S' : ev_St) (hJ : jm_334 Q a0 a1 S = some (x, S')) : ev_Ref d 334 [.ref 621, .int (Int32.ofInt a0), .int (Int32.ofInt a1)] S (ev_eI x) S' (ev_rng x) := by
  obtain ⟨d, rfl⟩ : ∃ e, d = e + 1 := ⟨d - 1, by omega⟩
  refine ev_ref_of (P := ev_rng) (lv := [(0, .ref 621), (1, .int (Int32.ofInt a0)), (2, .int (Int32.ofInt a1))]) (by decide +kernel) (by (try simp only [ev_sum, ev_nv_cat]); first | done | rfl) (by (try simp only [lv_args, ev_nv_cat]); first | done | rfl) ?_ x S' hJ
  unfold jm_334
  refine ev_r_aload_n (pc := 0) (k := 0) (v := .ref 621) trivial (by decide +kernel) (by rfl) ?_
  refine ev_r_aload_n (pc := 1) (k := 0) (v := .ref 621) trivial (by decide +kernel) (by rfl) ?_
  refine ev_r_iload_n (pc := 2) (k := 1) (v := Int32.ofInt a0) (by decide +kernel) (by rfl) ?_
  refine ev_r_virt (pc := 3) (y := 531) (mi := 273) (na := 1) (k := 621) (as := [.int (Int32.ofInt a0)]) (rest := [.ref 621]) (encc := ev_oI) (Q := ev_bl) (fun x S1 h => jt_273 d (by omega) Q a0 ha0 S x S1 h) (by exact ev_ob_621) (by decide +kernel) (by decide +kernel) (by decide +kernel) (by decide +kernel) rfl (by (try simp only [ev_sum, ev_nv_cat]); first | done | rfl) ?_
  intro x2 s1 hx2
  replace hx2 := ev_bl_rng hx2
  show ev_w _ _ _ _ _ [.int (Int32.ofInt x2), .ref 621] _ _ _ _
  refine ev_r_jn (Q := fun K => ∀ (x3 : Int) (hx3 : ev_rng x3), ∀ (s8 : ev_St) (w4 : List (Nat × Value)), ev_lk w4 0 = some (.ref 621) → ev_lk w4 1 = some (.int (Int32.ofInt a0)) → ev_lk w4 2 = some (.int (Int32.ofInt a1)) → ev_w none (ev_Mof 334) d 22 w4 [.int (Int32.ofInt x3), .ref 621] s8 (K x3 s8) ev_eI ev_rng) ?_ ?_
  · intro x3 hx3 s8 w4 e5 e6 e7
    refine ev_r_putI (pc := 22) (y := 321) (ci := 13) (f := 0) hx3 (by decide +kernel) (by decide +kernel) (by exact ev_ob_621) rfl rfl ?_
    intro s9
    refine ev_r_aload_n (pc := 25) (k := 0) (v := .ref 621) trivial (by decide +kernel) (by exact e5) ?_
    refine ev_r_getI (pc := 26) (y := 321) (ci := 13) (f := 0) (fin := 0) (by decide +kernel) (by decide +kernel) (by exact ev_ob_621) rfl ?_
    intro x10 hx10
    refine ev_r_if (pc := 29) (q := .le) (o := 5) (t := 34) (c := x10 ≤ 0) (by decide +kernel) (ev_k_le hx10 ev_rng0) (by decide +kernel) ?_ ?_
    · intro c11
      refine ev_r_aload_n (pc := 34) (k := 0) (v := .ref 621) trivial (by decide +kernel) (by exact e5) ?_
      refine ev_r_iload_n (pc := 35) (k := 2) (v := Int32.ofInt a1) (by decide +kernel) (by exact e7) ?_
      refine ev_r_virt (pc := 36) (y := 722) (mi := 288) (na := 1) (k := 621) (as := [.int (Int32.ofInt a1)]) (rest := []) (encc := ev_oU) (Q := ev_PU) (fun x S1 h => jt_288 d (by omega) Q a1 ha1 s9 x S1 h) (by exact ev_ob_621) (by decide +kernel) (by decide +kernel) (by decide +kernel) (by decide +kernel) rfl (by (try simp only [ev_sum, ev_nv_cat]); first | done | rfl) ?_
      intro _ s12 _
      show ev_w _ _ _ _ _ [] _ _ _ _
      refine ev_r_iconst (pc := 39) (k := 0) (by decide +kernel) ?_
      refine ev_r_istore_n (pc := 40) (k := 3) (by decide +kernel) (by decide +kernel) rfl ?_
      refine ev_r_iconst (pc := 41) (k := 0) (by decide +kernel) ?_
      refine ev_r_istore (pc := 42) (k := 4) (by decide +kernel) (by decide +kernel) rfl ?_
      exact jlt_334_44 d hd Q a0 ha0   Q 0 (by decide) 0 (by decide) s12 _ (by exact (ev_l1 (ev_l1 e5 (by decide) (by decide)) (by decide) (by decide))) (by exact (ev_l1 (ev_l1 e6 (by decide) (by decide)) (by decide) (by decide))) (by exact (ev_lk_st1 ev_lk_st1_self (by decide) rfl)) (by exact ev_lk_st1_self)
    · intro c11
      refine ev_r_iconst (pc := 32) (k := 0) (by decide +kernel) ?_
      exact ev_r_ireturn (pc := 33) (x := 0) (v := Int32.ofInt 0) (ty := .int) (by decide) (by decide +kernel) (by decide +kernel) rfl rfl
  · intro K22 hK22
    refine ev_r_jn (Q := fun K => ∀ (s40 : ev_St) (w36 : List (Nat × Value)), ev_lk w36 0 = some (.ref 621) → ev_lk w36 1 = some (.int (Int32.ofInt a0)) → ev_lk w36 2 = some (.int (Int32.ofInt a1)) → ev_w none (ev_Mof 334) d 21 w36 [.ref 621] s40 (K  s40) ev_eI ev_rng) ?_ ?_
    · intro  s40 w36 e37 e38 e39
      refine ev_r_iconst (pc := 21) (k := 1) (by decide +kernel) ?_
      exact hK22 1 (by decide) s40 _ (by exact e37) (by exact e38) (by exact e39)
    · intro K21 hK21
      refine ev_r_if (pc := 6) (q := .eq) (o := 15) (t := 21) (c := x2 = 0) (by decide +kernel) (ev_k_eq hx2 ev_rng0) (by decide +kernel) ?_ ?_
      · intro c41
        exact hK21  s1 _ (by rfl) (by rfl) (by rfl)
      · intro c41
        refine ev_r_aload_n (pc := 9) (k := 0) (v := .ref 621) trivial (by decide +kernel) (by rfl) ?_
        refine ev_r_iload_n (pc := 10) (k := 2) (v := Int32.ofInt a1) (by decide +kernel) (by rfl) ?_
        refine ev_r_virt (pc := 11) (y := 716) (mi := 325) (na := 1) (k := 621) (as := [.int (Int32.ofInt a1)]) (rest := [.ref 621]) (encc := ev_oI) (Q := ev_bl) (fun x S1 h => jt_325 d (by omega) Q a1 ha1 s1 x S1 h) (by exact ev_ob_621) (by decide +kernel) (by decide +kernel) (by decide +kernel) (by decide +kernel) rfl (by (try simp only [ev_sum, ev_nv_cat]); first | done | rfl) ?_
        intro x43 s42 hx43
        replace hx43 := ev_bl_rng hx43
        show ev_w _ _ _ _ _ [.int (Int32.ofInt x43), .ref 621] _ _ _ _
        refine ev_r_if (pc := 14) (q := .eq) (o := 7) (t := 21) (c := x43 = 0) (by decide +kernel) (ev_k_eq hx43 ev_rng0) (by decide +kernel) ?_ ?_
        · intro c44
          exact hK21  s42 _ (by rfl) (by rfl) (by rfl)
        · intro c44
          refine ev_r_iconst (pc := 17) (k := 0) (by decide +kernel) ?_
          refine ev_r_goto (pc := 18) (o := 4) (t := 22) (by decide +kernel) (by decide +kernel) ?_
          exact hK22 0 (by decide) s42 _ (by rfl) (by rfl) (by rfl)
def jb_335_49 (Q : Nat) (a0 : Int) (a2 : Int)  (K49 : Int → Int → ev_St → Option ((Int) × ev_St)) (x14 : Int) (x15 : Int) (s22 : ev_St) : Option ((Int) × ev_St) := if x14 = (-1) then (ev_bd (jm_221 Q 1 s22) fun x25 s24 => some (x25, s24)) else (ev_bd (jm_308 Q a0 x14 0 s22) fun x27 s26 => if x27 = 1 then (if x15 ≠ a2 then (ev_ck (x15 + 1) fun x30 => ev_bd (jm_333 Q  s26) fun x32 s31 => K49 x32 x30 s31) else (ev_if ((0 : Int) ≤ 0 ∧ 0 < (ev_aln 679 : Int)) (ev_b (s26.1 679 (Int.toNat 0)) fun x33 => ev_ck (1000 * x33) fun x34 => ev_if ((0 : Int) ≤ 0 ∧ 0 < (ev_aln 680 : Int)) (ev_b (s26.1 680 (Int.toNat 0)) fun x35 => ev_ck (x34 + x35) fun x36 => some (x36, s26))))) else (ev_bd (jm_221 Q 1 s26) fun x38 s37 => some (x38, s37)))
def jl_335_49 (Q : Nat) (a0 : Int) (a2 : Int)  : Nat → Int → Int → ev_St → Option ((Int) × ev_St)
  | 0 => fun _ _ _ => none
  | q + 1 => jb_335_49 Q a0 a2  (jl_335_49 Q a0 a2  q)
theorem jbt_335_49 (d : Nat) (hd : 10 ≤ d + 1) (Q : Nat) (a0 : Int) (a2 : Int) (ha0 : ev_rng a0) (ha2 : ev_rng a2)   (K49 : Int → Int → ev_St → Option ((Int) × ev_St)) (hK49 : ∀ (x14 : Int) (hx14 : ev_rng x14), ∀ (x15 : Int) (hx15 : ev_rng x15), ∀ (s22 : ev_St) (w16 : List (Nat × Value)), ev_lk w16 0 = some (.ref 621) → ev_lk w16 1 = some (.int (Int32.ofInt a0)) → ev_lk w16 3 = some (.int (Int32.ofInt a2)) → ev_lk w16 4 = some (.int (Int32.ofInt x14)) → ev_lk w16 5 = some (.int (Int32.ofInt x15)) → ev_w none (ev_Mof 335) d 49 w16 [] s22 (K49 x14 x15 s22) ev_eI ev_rng) : ∀ (x14 : Int) (hx14 : ev_rng x14), ∀ (x15 : Int) (hx15 : ev_rng x15), ∀ (s22 : ev_St) (w16 : List (Nat × Value)), ev_lk w16 0 = some (.ref 621) → ev_lk w16 1 = some (.int (Int32.ofInt a0)) → ev_lk w16 3 = some (.int (Int32.ofInt a2)) → ev_lk w16 4 = some (.int (Int32.ofInt x14)) → ev_lk w16 5 = some (.int (Int32.ofInt x15)) → ev_w none (ev_Mof 335) d 49 w16 [] s22 (jb_335_49 Q a0 a2  K49 x14 x15 s22) ev_eI ev_rng := by
  intro x14 hx14 x15 hx15 s22 w16 e17 e18 e19 e20 e21
  unfold jb_335_49
  refine ev_r_iload (pc := 49) (k := 4) (v := Int32.ofInt x14) (by decide +kernel) (by exact e20) ?_
  refine ev_r_iconst (pc := 51) (k := -1) (by decide +kernel) ?_
  refine ev_r_icmp (pc := 52) (q := .eq) (o := 57) (t := 109) (c := x14 = (-1)) (by decide +kernel) (ev_k_eq hx14 (by decide)) (by decide +kernel) ?_ ?_
  · intro c23
    refine ev_r_aload_n (pc := 109) (k := 0) (v := .ref 621) trivial (by decide +kernel) (by exact e17) ?_
    refine ev_r_iconst (pc := 110) (k := 1) (by decide +kernel) ?_
    refine ev_r_virt (pc := 111) (y := 342) (mi := 221) (na := 1) (k := 621) (as := [.int (Int32.ofInt 1)]) (rest := []) (encc := ev_oI) (Q := ev_rng) (fun x S1 h => jt_221 d (by omega) Q 1 (by decide) s22 x S1 h) (by exact ev_ob_621) (by decide +kernel) (by decide +kernel) (by decide +kernel) (by decide +kernel) rfl (by (try simp only [ev_sum, ev_nv_cat]); first | done | rfl) ?_
    intro x25 s24 hx25
    show ev_w _ _ _ _ _ [.int (Int32.ofInt x25)] _ _ _ _
    exact ev_r_ireturn (pc := 114) (x := x25) (v := Int32.ofInt x25) (ty := .int) hx25 (by decide +kernel) (by decide +kernel) rfl rfl
  · intro c23
    refine ev_r_aload_n (pc := 55) (k := 0) (v := .ref 621) trivial (by decide +kernel) (by exact e17) ?_
    refine ev_r_iload_n (pc := 56) (k := 1) (v := Int32.ofInt a0) (by decide +kernel) (by exact e18) ?_
    refine ev_r_iload (pc := 57) (k := 4) (v := Int32.ofInt x14) (by decide +kernel) (by exact e20) ?_
    refine ev_r_iconst (pc := 59) (k := 0) (by decide +kernel) ?_
    refine ev_r_virt (pc := 60) (y := 725) (mi := 308) (na := 3) (k := 621) (as := [.int (Int32.ofInt a0), .int (Int32.ofInt x14), .int (Int32.ofInt 0)]) (rest := []) (encc := ev_oI) (Q := ev_rng) (fun x S1 h => jt_308 d (by omega) Q a0 x14 0 ha0 hx14 (by decide) s22 x S1 h) (by exact ev_ob_621) (by decide +kernel) (by decide +kernel) (by decide +kernel) (by decide +kernel) rfl (by (try simp only [ev_sum, ev_nv_cat]); first | done | rfl) ?_
    intro x27 s26 hx27
    show ev_w _ _ _ _ _ [.int (Int32.ofInt x27)] _ _ _ _
    refine ev_r_iconst (pc := 63) (k := 1) (by decide +kernel) ?_
    refine ev_r_icmp (pc := 64) (q := .eq) (o := 9) (t := 73) (c := x27 = 1) (by decide +kernel) (ev_k_eq hx27 (by decide)) (by decide +kernel) ?_ ?_
    · intro c28
      refine ev_r_iload (pc := 73) (k := 5) (v := Int32.ofInt x15) (by decide +kernel) (by exact e21) ?_
      refine ev_r_iload_n (pc := 75) (k := 3) (v := Int32.ofInt a2) (by decide +kernel) (by exact e19) ?_
      refine ev_r_icmp (pc := 76) (q := .ne) (o := 21) (t := 97) (c := x15 ≠ a2) (by decide +kernel) (ev_k_ne hx15 ha2) (by decide +kernel) ?_ ?_
      · intro c29
        refine ev_r_iinc (pc := 97) (k := 5) (c := 1) (x := x15) (by decide +kernel) (by decide +kernel) (by exact e21) (fun _ => rfl) ?_
        intro x30 hx30
        refine ev_r_aload_n (pc := 100) (k := 0) (v := .ref 621) trivial (by decide +kernel) (by exact (ev_l1 e17 (by decide) (by decide))) ?_
        refine ev_r_virt (pc := 101) (y := 738) (mi := 333) (na := 0) (k := 621) (as := []) (rest := []) (encc := ev_oI) (Q := ev_rng) (fun x S1 h => jt_333 d (by omega) Q   s26 x S1 h) (by exact ev_ob_621) (by decide +kernel) (by decide +kernel) (by decide +kernel) (by decide +kernel) rfl (by (try simp only [ev_sum, ev_nv_cat]); first | done | rfl) ?_
        intro x32 s31 hx32
        show ev_w _ _ _ _ _ [.int (Int32.ofInt x32)] _ _ _ _
        refine ev_r_istore (pc := 104) (k := 4) (by decide +kernel) (by decide +kernel) rfl ?_
        refine ev_r_goto (pc := 106) (o := (-57)) (t := 49) (by decide +kernel) (by decide +kernel) ?_
        exact hK49 x32 hx32 x30 hx30 s31 _ (by exact (ev_l1 (ev_l1 e17 (by decide) (by decide)) (by decide) (by decide))) (by exact (ev_l1 (ev_l1 e18 (by decide) (by decide)) (by decide) (by decide))) (by exact (ev_lk_st1 (ev_l1 e19 (by decide) (by decide)) (by decide) rfl)) (by exact ev_lk_st1_self) (by exact (ev_l1 ev_lk_st1_self (by decide) (by decide)))
      · intro c29
        refine ev_r_sipush (pc := 79) (k := 1000) (by decide +kernel) (by decide +kernel) ?_
        refine ev_r_aload_n (pc := 82) (k := 0) (v := .ref 621) trivial (by decide +kernel) (by exact e17) ?_
        refine ev_r_getC (pc := 83) (y := 184) (ci := 13) (f := 86) (fin := 1) (k' := 679) (by decide +kernel) (by decide +kernel) (by exact ev_ob_621) rfl rfl ?_
        refine ev_r_iconst (pc := 86) (k := 0) (by decide +kernel) ?_
        refine ev_r_iald (pc := 87) (by decide) (by decide +kernel) (by exact ev_ab_679) ?_
        intro x33 hx33
        refine ev_r_imul (pc := 88) (by decide +kernel) ?_
        intro x34 hx34
        refine ev_r_aload_n (pc := 89) (k := 0) (v := .ref 621) trivial (by decide +kernel) (by exact e17) ?_
        refine ev_r_getC (pc := 90) (y := 187) (ci := 13) (f := 87) (fin := 1) (k' := 680) (by decide +kernel) (by decide +kernel) (by exact ev_ob_621) rfl rfl ?_
        refine ev_r_iconst (pc := 93) (k := 0) (by decide +kernel) ?_
        refine ev_r_iald (pc := 94) (by decide) (by decide +kernel) (by exact ev_ab_680) ?_
        intro x35 hx35
        refine ev_r_iadd (pc := 95) (by decide +kernel) ?_
        intro x36 hx36
        exact ev_r_ireturn (pc := 96) (x := x36) (v := Int32.ofInt x36) (ty := .int) hx36 (by decide +kernel) (by decide +kernel) rfl rfl
    · intro c28
      refine ev_r_aload_n (pc := 67) (k := 0) (v := .ref 621) trivial (by decide +kernel) (by exact e17) ?_
      refine ev_r_iconst (pc := 68) (k := 1) (by decide +kernel) ?_
      refine ev_r_virt (pc := 69) (y := 342) (mi := 221) (na := 1) (k := 621) (as := [.int (Int32.ofInt 1)]) (rest := []) (encc := ev_oI) (Q := ev_rng) (fun x S1 h => jt_221 d (by omega) Q 1 (by decide) s26 x S1 h) (by exact ev_ob_621) (by decide +kernel) (by decide +kernel) (by decide +kernel) (by decide +kernel) rfl (by (try simp only [ev_sum, ev_nv_cat]); first | done | rfl) ?_
      intro x38 s37 hx38
      show ev_w _ _ _ _ _ [.int (Int32.ofInt x38)] _ _ _ _
      exact ev_r_ireturn (pc := 72) (x := x38) (v := Int32.ofInt x38) (ty := .int) hx38 (by decide +kernel) (by decide +kernel) rfl rfl
theorem jlt_335_49 (d : Nat) (hd : 10 ≤ d + 1) (Q : Nat) (a0 : Int) (a2 : Int) (ha0 : ev_rng a0) (ha2 : ev_rng a2)   : ∀ q : Nat, ∀ (x14 : Int) (hx14 : ev_rng x14), ∀ (x15 : Int) (hx15 : ev_rng x15), ∀ (s22 : ev_St) (w16 : List (Nat × Value)), ev_lk w16 0 = some (.ref 621) → ev_lk w16 1 = some (.int (Int32.ofInt a0)) → ev_lk w16 3 = some (.int (Int32.ofInt a2)) → ev_lk w16 4 = some (.int (Int32.ofInt x14)) → ev_lk w16 5 = some (.int (Int32.ofInt x15)) → ev_w none (ev_Mof 335) d 49 w16 [] s22 (jl_335_49 Q a0 a2  q x14 x15 s22) ev_eI ev_rng := by
  intro q
  induction q with
  | zero =>
    intro x14 hx14 x15 hx15 s22 w16 e17 e18 e19 e20 e21
    exact ev_w_none
  | succ q ih => exact jbt_335_49 d hd Q a0 a2 ha0 ha2   _ ih
/-- MendBenchModel.match(III)I -/
def jm_335 (Q : Nat) (a0 : Int) (a1 : Int) (a2 : Int) (S : ev_St) : Option ((Int) × ev_St) := ev_bd (jm_273 Q a0 S) fun x2 s1 => ev_jn (fun (x3 : Int) (s9 : ev_St) => ev_b (ev_pI s9 621 0 x3) fun s10 => ev_b (s10.1 621 0) fun x11 => if x11 ≤ 0 then (ev_bd (jm_288 Q a1 s10) fun _ s13 => jl_335_49 Q a0 a2  Q 0 0 s13) else (some (0, s10))) fun K26 => ev_jn (fun  (s44 : ev_St) => K26 1 s44) fun K25 => if x2 = 0 then (K25  s1) else (ev_bd (jm_325 Q a1 s1) fun x47 s46 => if x47 = 0 then (K25  s46) else (if a2 < 0 then (K25  s46) else (K26 0 s46)))
theorem jt_335 (d : Nat) (hd : 10 ≤ d) (Q : Nat) (a0 : Int) (a1 : Int) (a2 : Int) (ha0 : ev_rng a0) (ha1 : ev_rng a1) (ha2 : ev_rng a2) (S : ev_St) (x : Int) (S' : ev_St) (hJ : jm_335 Q a0 a1 a2 S = some (x, S')) : ev_Ref d 335 [.ref 621, .int (Int32.ofInt a0), .int (Int32.ofInt a1), .int (Int32.ofInt a2)] S (ev_eI x) S' (ev_rng x) := by
  obtain ⟨d, rfl⟩ : ∃ e, d = e + 1 := ⟨d - 1, by omega⟩
  refine ev_ref_of (P := ev_rng) (lv := [(0, .ref 621), (1, .int (Int32.ofInt a0)), (2, .int (Int32.ofInt a1)), (3, .int (Int32.ofInt a2))]) (by decide +kernel) (by (try simp only [ev_sum, ev_nv_cat]); first | done | rfl) (by (try simp only [lv_args, ev_nv_cat]); first | done | rfl) ?_ x S' hJ
  unfold jm_335
  refine ev_r_aload_n (pc := 0) (k := 0) (v := .ref 621) trivial (by decide +kernel) (by rfl) ?_
  refine ev_r_aload_n (pc := 1) (k := 0) (v := .ref 621) trivial (by decide +kernel) (by rfl) ?_
  refine ev_r_iload_n (pc := 2) (k := 1) (v := Int32.ofInt a0) (by decide +kernel) (by rfl) ?_
  refine ev_r_virt (pc := 3) (y := 531) (mi := 273) (na := 1) (k := 621) (as := [.int (Int32.ofInt a0)]) (rest := [.ref 621]) (encc := ev_oI) (Q := ev_bl) (fun x S1 h => jt_273 d (by omega) Q a0 ha0 S x S1 h) (by exact ev_ob_621) (by decide +kernel) (by decide +kernel) (by decide +kernel) (by decide +kernel) rfl (by (try simp only [ev_sum, ev_nv_cat]); first | done | rfl) ?_
  intro x2 s1 hx2
  replace hx2 := ev_bl_rng hx2
  show ev_w _ _ _ _ _ [.int (Int32.ofInt x2), .ref 621] _ _ _ _
  refine ev_r_jn (Q := fun K => ∀ (x3 : Int) (hx3 : ev_rng x3), ∀ (s9 : ev_St) (w4 : List (Nat × Value)), ev_lk w4 0 = some (.ref 621) → ev_lk w4 1 = some (.int (Int32.ofInt a0)) → ev_lk w4 2 = some (.int (Int32.ofInt a1)) → ev_lk w4 3 = some (.int (Int32.ofInt a2)) → ev_w none (ev_Mof 335) d 26 w4 [.int (Int32.ofInt x3), .ref 621] s9 (K x3 s9) ev_eI ev_rng) ?_ ?_
  · intro x3 hx3 s9 w4 e5 e6 e7 e8
    refine ev_r_putI (pc := 26) (y := 321) (ci := 13) (f := 0) hx3 (by decide +kernel) (by decide +kernel) (by exact ev_ob_621) rfl rfl ?_
    intro s10
    refine ev_r_aload_n (pc := 29) (k := 0) (v := .ref 621) trivial (by decide +kernel) (by exact e5) ?_
    refine ev_r_getI (pc := 30) (y := 321) (ci := 13) (f := 0) (fin := 0) (by decide +kernel) (by decide +kernel) (by exact ev_ob_621) rfl ?_
    intro x11 hx11
    refine ev_r_if (pc := 33) (q := .le) (o := 5) (t := 38) (c := x11 ≤ 0) (by decide +kernel) (ev_k_le hx11 ev_rng0) (by decide +kernel) ?_ ?_
    · intro c12
      refine ev_r_aload_n (pc := 38) (k := 0) (v := .ref 621) trivial (by decide +kernel) (by exact e5) ?_
      refine ev_r_iload_n (pc := 39) (k := 2) (v := Int32.ofInt a1) (by decide +kernel) (by exact e7) ?_
      refine ev_r_virt (pc := 40) (y := 722) (mi := 288) (na := 1) (k := 621) (as := [.int (Int32.ofInt a1)]) (rest := []) (encc := ev_oU) (Q := ev_PU) (fun x S1 h => jt_288 d (by omega) Q a1 ha1 s10 x S1 h) (by exact ev_ob_621) (by decide +kernel) (by decide +kernel) (by decide +kernel) (by decide +kernel) rfl (by (try simp only [ev_sum, ev_nv_cat]); first | done | rfl) ?_
      intro _ s13 _
      show ev_w _ _ _ _ _ [] _ _ _ _
      refine ev_r_iconst (pc := 43) (k := 0) (by decide +kernel) ?_
      refine ev_r_istore (pc := 44) (k := 4) (by decide +kernel) (by decide +kernel) rfl ?_
      refine ev_r_iconst (pc := 46) (k := 0) (by decide +kernel) ?_
      refine ev_r_istore (pc := 47) (k := 5) (by decide +kernel) (by decide +kernel) rfl ?_
      exact jlt_335_49 d hd Q a0 a2 ha0 ha2   Q 0 (by decide) 0 (by decide) s13 _ (by exact (ev_l1 (ev_l1 e5 (by decide) (by decide)) (by decide) (by decide))) (by exact (ev_l1 (ev_l1 e6 (by decide) (by decide)) (by decide) (by decide))) (by exact (ev_l1 (ev_lk_st1 e8 (by decide) rfl) (by decide) (by decide))) (by exact (ev_lk_st1 ev_lk_st1_self (by decide) rfl)) (by exact ev_lk_st1_self)
    · intro c12
      refine ev_r_iconst (pc := 36) (k := 0) (by decide +kernel) ?_
      exact ev_r_ireturn (pc := 37) (x := 0) (v := Int32.ofInt 0) (ty := .int) (by decide) (by decide +kernel) (by decide +kernel) rfl rfl
  · intro K26 hK26
    refine ev_r_jn (Q := fun K => ∀ (s44 : ev_St) (w39 : List (Nat × Value)), ev_lk w39 0 = some (.ref 621) → ev_lk w39 1 = some (.int (Int32.ofInt a0)) → ev_lk w39 2 = some (.int (Int32.ofInt a1)) → ev_lk w39 3 = some (.int (Int32.ofInt a2)) → ev_w none (ev_Mof 335) d 25 w39 [.ref 621] s44 (K  s44) ev_eI ev_rng) ?_ ?_
    · intro  s44 w39 e40 e41 e42 e43
      refine ev_r_iconst (pc := 25) (k := 1) (by decide +kernel) ?_
      exact hK26 1 (by decide) s44 _ (by exact e40) (by exact e41) (by exact e42) (by exact e43)
    · intro K25 hK25
      refine ev_r_if (pc := 6) (q := .eq) (o := 19) (t := 25) (c := x2 = 0) (by decide +kernel) (ev_k_eq hx2 ev_rng0) (by decide +kernel) ?_ ?_
      · intro c45
        exact hK25  s1 _ (by rfl) (by rfl) (by rfl) (by rfl)
      · intro c45
        refine ev_r_aload_n (pc := 9) (k := 0) (v := .ref 621) trivial (by decide +kernel) (by rfl) ?_
        refine ev_r_iload_n (pc := 10) (k := 2) (v := Int32.ofInt a1) (by decide +kernel) (by rfl) ?_
        refine ev_r_virt (pc := 11) (y := 716) (mi := 325) (na := 1) (k := 621) (as := [.int (Int32.ofInt a1)]) (rest := [.ref 621]) (encc := ev_oI) (Q := ev_bl) (fun x S1 h => jt_325 d (by omega) Q a1 ha1 s1 x S1 h) (by exact ev_ob_621) (by decide +kernel) (by decide +kernel) (by decide +kernel) (by decide +kernel) rfl (by (try simp only [ev_sum, ev_nv_cat]); first | done | rfl) ?_
        intro x47 s46 hx47
        replace hx47 := ev_bl_rng hx47
        show ev_w _ _ _ _ _ [.int (Int32.ofInt x47), .ref 621] _ _ _ _
        refine ev_r_if (pc := 14) (q := .eq) (o := 11) (t := 25) (c := x47 = 0) (by decide +kernel) (ev_k_eq hx47 ev_rng0) (by decide +kernel) ?_ ?_
        · intro c48
          exact hK25  s46 _ (by rfl) (by rfl) (by rfl) (by rfl)
        · intro c48
          refine ev_r_iload_n (pc := 17) (k := 3) (v := Int32.ofInt a2) (by decide +kernel) (by rfl) ?_
          refine ev_r_if (pc := 18) (q := .lt) (o := 7) (t := 25) (c := a2 < 0) (by decide +kernel) (ev_k_lt ha2 ev_rng0) (by decide +kernel) ?_ ?_
          · intro c49
            exact hK25  s46 _ (by rfl) (by rfl) (by rfl) (by rfl)
          · intro c49
            refine ev_r_iconst (pc := 21) (k := 0) (by decide +kernel) ?_
            refine ev_r_goto (pc := 22) (o := 4) (t := 26) (by decide +kernel) (by decide +kernel) ?_
            exact hK26 0 (by decide) s46 _ (by rfl) (by rfl) (by rfl) (by rfl)
def jb_336_6 (Q : Nat)   (K6 : Int → Int → Int → ev_St → Option ((Int) × ev_St)) (x1 : Int) (x2 : Int) (x3 : Int) (s9 : ev_St) : Option ((Int) × ev_St) := ev_b (s9.1 621 1) fun x10 => if x10 ≤ x3 then (if x1 = 0 then (some (0, s9)) else (if x2 ≠ 0 then (some (0, s9)) else (some (1, s9)))) else (ev_if ((0 : Int) ≤ x3 ∧ x3 < (ev_aln 622 : Int)) (ev_b (s9.1 622 (Int.toNat x3)) fun x14 => ev_ck (x3 + 1) fun x15 => ev_b (s9.1 621 1) fun x16 => ev_jn (fun (x17 : Int) (x18 : Int) (s25 : ev_St) => ev_ck (x3 + 2) fun x26 => ev_b (s25.1 621 1) fun x27 => ev_jn (fun (x28 : Int) (x29 : Int) (s37 : ev_St) => ev_ck (x3 + 3) fun x38 => ev_b (s37.1 621 1) fun x39 => ev_jn (fun (x40 : Int) (x41 : Int) (s50 : ev_St) => ev_ck (x3 + 1) fun x51 => ev_jn (fun (x52 : Int) (x53 : Int) (x54 : Int) (s60 : ev_St) => K6 x52 x53 x54 s60) fun K310 => ev_jn (fun (x61 : Int) (x62 : Int) (s72 : ev_St) => if x17 ≠ 36 then (if x17 ≠ 92 then (if x17 ≠ 63 then (ev_jn (fun  (s82 : ev_St) => if x2 ≤ 0 then (K310 x1 x2 x61 s82) else (if x17 ≠ 124 then (K310 x1 x2 x61 s82) else (ev_jn (fun (x85 : Int) (s89 : ev_St) => K310 x85 2 x61 s89) fun K307 => ev_jn (fun  (s93 : ev_St) => K307 0 s93) fun K306 => if x1 = 0 then (K306  s82) else (if x2 ≠ 1 then (K306  s82) else (K307 1 s82))))) fun K282 => if x2 ≤ 0 then (K282  s72) else (if x17 ≠ 125 then (K282  s72) else (K310 x1 0 x61 s72))) else (ev_jn (fun (x98 : Int) (s102 : ev_St) => ev_ck (x61 + 2) fun x103 => K310 x98 1 x103 s102) fun K257 => ev_jn (fun  (s107 : ev_St) => K257 0 s107) fun K256 => if x1 = 0 then (K256  s72) else (if x2 ≠ 0 then (K256  s72) else (ev_bd (jm_226 Q x28 s72) fun x111 s110 => if x111 = 0 then (K256  s110) else (if x40 ≠ 123 then (K256  s110) else (K257 1 s110)))))) else (ev_jn (fun (x114 : Int) (s119 : ev_St) => ev_ck (x61 + 1) fun x120 => K310 x114 x2 x120 s119) fun K215 => ev_jn (fun  (s125 : ev_St) => K215 0 s125) fun K214 => if x1 = 0 then (K214  s72) else (ev_jn (fun  (s131 : ev_St) => K215 1 s131) fun K210 => if x28 = 85 then (K210  s72) else (if x28 = 76 then (K210  s72) else (if x28 = 69 then (K210  s72) else (if x28 = 110 then (K210  s72) else (ev_bd (jm_228 Q x28 s72) fun x137 s136 => if x137 = 0 then (K214  s136) else (K210  s136)))))))) else (ev_jn (fun (x139 : Int) (s144 : ev_St) => ev_ck (x61 + 3) fun x145 => K310 x139 x2 x145 s144) fun K156 => ev_jn (fun  (s150 : ev_St) => K156 0 s150) fun K155 => if x1 = 0 then (K155  s72) else (if x28 ≠ 123 then (K155  s72) else (ev_bd (jm_224 Q x40 s72) fun x154 s153 => if x154 = 0 then (K155  s153) else (if x62 ≠ 125 then (K155  s153) else (K156 1 s153)))))) fun K118 => if x17 ≠ 36 then (K118 x51 x41 s50) else (ev_bd (jm_226 Q x28 s50) fun x159 s158 => if x159 = 0 then (K118 x51 x41 s158) else (ev_ck (x51 + 1) fun x161 => K310 x1 x2 x161 s158))) fun K92 => if x39 ≤ x38 then (K92 x29 ((-1)) s37) else (ev_ck (x3 + 3) fun x163 => ev_if ((0 : Int) ≤ x163 ∧ x163 < (ev_aln 622 : Int)) (ev_b (s37.1 622 (Int.toNat x163)) fun x164 => K92 x29 x164 s37))) fun K68 => if x27 ≤ x26 then (K68 x18 ((-1)) s25) else (ev_ck (x3 + 2) fun x166 => ev_if ((0 : Int) ≤ x166 ∧ x166 < (ev_aln 622 : Int)) (ev_b (s25.1 622 (Int.toNat x166)) fun x167 => K68 x18 x167 s25))) fun K44 => if x16 ≤ x15 then (K44 x14 ((-1)) s9) else (ev_ck (x3 + 1) fun x169 => ev_if ((0 : Int) ≤ x169 ∧ x169 < (ev_aln 622 : Int)) (ev_b (s9.1 622 (Int.toNat x169)) fun x170 => K44 x14 x170 s9))))
def jl_336_6 (Q : Nat)   : Nat → Int → Int → Int → ev_St → Option ((Int) × ev_St)
  | 0 => fun _ _ _ _ => none
  | q + 1 => jb_336_6 Q   (jl_336_6 Q   q)
theorem jbt_336_6 (d : Nat) (hd : 5 ≤ d + 1) (Q : Nat)     (K6 : Int → Int → Int → ev_St → Option ((Int) × ev_St)) (hK6 : ∀ (x1 : Int) (hx1 : ev_rng x1), ∀ (x2 : Int) (hx2 : ev_rng x2), ∀ (x3 : Int) (hx3 : ev_rng x3), ∀ (s9 : ev_St) (w4 : List (Nat × Value)), ev_lk w4 0 = some (.ref 621) → ev_lk w4 1 = some (.int (Int32.ofInt x1)) → ev_lk w4 2 = some (.int (Int32.ofInt x2)) → ev_lk w4 3 = some (.int (Int32.ofInt x3)) → ev_w none (ev_Mof 336) d 6 w4 [] s9 (K6 x1 x2 x3 s9) ev_eI ev_bl) : ∀ (x1 : Int) (hx1 : ev_rng x1), ∀ (x2 : Int) (hx2 : ev_rng x2), ∀ (x3 : Int) (hx3 : ev_rng x3), ∀ (s9 : ev_St) (w4 : List (Nat × Value)), ev_lk w4 0 = some (.ref 621) → ev_lk w4 1 = some (.int (Int32.ofInt x1)) → ev_lk w4 2 = some (.int (Int32.ofInt x2)) → ev_lk w4 3 = some (.int (Int32.ofInt x3)) → ev_w none (ev_Mof 336) d 6 w4 [] s9 (jb_336_6 Q   K6 x1 x2 x3 s9) ev_eI ev_bl := by
  intro x1 hx1 x2 hx2 x3 hx3 s9 w4 e5 e6 e7 e8
  unfold jb_336_6
  refine ev_r_iload_n (pc := 6) (k := 3) (v := Int32.ofInt x3) (by decide +kernel) (by exact e8) ?_
  refine ev_r_aload_n (pc := 7) (k := 0) (v := .ref 621) trivial (by decide +kernel) (by exact e5) ?_
  refine ev_r_getI (pc := 8) (y := 346) (ci := 13) (f := 1) (fin := 0) (by decide +kernel) (by decide +kernel) (by exact ev_ob_621) rfl ?_
  intro x10 hx10
  refine ev_r_icmp (pc := 11) (q := .ge) (o := 302) (t := 313) (c := x10 ≤ x3) (by decide +kernel) (ev_k_ge hx3 hx10) (by decide +kernel) ?_ ?_
  · intro c11
    refine ev_r_iload_n (pc := 313) (k := 1) (v := Int32.ofInt x1) (by decide +kernel) (by exact e6) ?_
    refine ev_r_if (pc := 314) (q := .eq) (o := 11) (t := 325) (c := x1 = 0) (by decide +kernel) (ev_k_eq hx1 ev_rng0) (by decide +kernel) ?_ ?_
    · intro c12
      refine ev_r_iconst (pc := 325) (k := 0) (by decide +kernel) ?_
      exact ev_r_ireturn (pc := 326) (x := 0) (v := Int32.ofInt 0) (ty := .boolean) (by decide : ev_bl 0) (by decide +kernel) (by decide +kernel) (ev_ret_bl (by decide : ev_bl 0)) rfl
    · intro c12
      refine ev_r_iload_n (pc := 317) (k := 2) (v := Int32.ofInt x2) (by decide +kernel) (by exact e7) ?_
      refine ev_r_if (pc := 318) (q := .ne) (o := 7) (t := 325) (c := x2 ≠ 0) (by decide +kernel) (ev_k_ne hx2 ev_rng0) (by decide +kernel) ?_ ?_
      · intro c13
        refine ev_r_iconst (pc := 325) (k := 0) (by decide +kernel) ?_
        exact ev_r_ireturn (pc := 326) (x := 0) (v := Int32.ofInt 0) (ty := .boolean) (by decide : ev_bl 0) (by decide +kernel) (by decide +kernel) (ev_ret_bl (by decide : ev_bl 0)) rfl
      · intro c13
        refine ev_r_iconst (pc := 321) (k := 1) (by decide +kernel) ?_
        refine ev_r_goto (pc := 322) (o := 4) (t := 326) (by decide +kernel) (by decide +kernel) ?_
        exact ev_r_ireturn (pc := 326) (x := 1) (v := Int32.ofInt 1) (ty := .boolean) (by decide : ev_bl 1) (by decide +kernel) (by decide +kernel) (ev_ret_bl (by decide : ev_bl 1)) rfl
  · intro c11
    refine ev_r_aload_n (pc := 14) (k := 0) (v := .ref 621) trivial (by decide +kernel) (by exact e5) ?_
    refine ev_r_getC (pc := 15) (y := 7) (ci := 13) (f := 2) (fin := 1) (k' := 622) (by decide +kernel) (by decide +kernel) (by exact ev_ob_621) rfl rfl ?_
    refine ev_r_iload_n (pc := 18) (k := 3) (v := Int32.ofInt x3) (by decide +kernel) (by exact e8) ?_
    refine ev_r_iald (pc := 19) hx3 (by decide +kernel) (by exact ev_ab_622) ?_
    intro x14 hx14
    refine ev_r_istore (pc := 20) (k := 4) (by decide +kernel) (by decide +kernel) rfl ?_
    refine ev_r_iload_n (pc := 22) (k := 3) (v := Int32.ofInt x3) (by decide +kernel) (by exact (ev_lk_st1 e8 (by decide) rfl)) ?_
    refine ev_r_iconst (pc := 23) (k := 1) (by decide +kernel) ?_
    refine ev_r_iadd (pc := 24) (by decide +kernel) ?_
    intro x15 hx15
    refine ev_r_aload_n (pc := 25) (k := 0) (v := .ref 621) trivial (by decide +kernel) (by exact (ev_l1 e5 (by decide) (by decide))) ?_
    refine ev_r_getI (pc := 26) (y := 346) (ci := 13) (f := 1) (fin := 0) (by decide +kernel) (by decide +kernel) (by exact ev_ob_621) rfl ?_
    intro x16 hx16
    refine ev_r_jn (Q := fun K => ∀ (x17 : Int) (hx17 : ev_rng x17), ∀ (x18 : Int) (hx18 : ev_rng x18), ∀ (s25 : ev_St) (w19 : List (Nat × Value)), ev_lk w19 0 = some (.ref 621) → ev_lk w19 1 = some (.int (Int32.ofInt x1)) → ev_lk w19 2 = some (.int (Int32.ofInt x2)) → ev_lk w19 3 = some (.int (Int32.ofInt x3)) → ev_lk w19 4 = some (.int (Int32.ofInt x17)) → ev_w none (ev_Mof 336) d 44 w19 [.int (Int32.ofInt x18)] s25 (K x17 x18 s25) ev_eI ev_bl) ?_ ?_
    · intro x17 hx17 x18 hx18 s25 w19 e20 e21 e22 e23 e24
      refine ev_r_istore (pc := 44) (k := 5) (by decide +kernel) (by decide +kernel) rfl ?_
      refine ev_r_iload_n (pc := 46) (k := 3) (v := Int32.ofInt x3) (by decide +kernel) (by exact (ev_l1 e23 (by decide) (by decide))) ?_
      refine ev_r_iconst (pc := 47) (k := 2) (by decide +kernel) ?_
      refine ev_r_iadd (pc := 48) (by decide +kernel) ?_
      intro x26 hx26
      refine ev_r_aload_n (pc := 49) (k := 0) (v := .ref 621) trivial (by decide +kernel) (by exact (ev_l1 e20 (by decide) (by decide))) ?_
      refine ev_r_getI (pc := 50) (y := 346) (ci := 13) (f := 1) (fin := 0) (by decide +kernel) (by decide +kernel) (by exact ev_ob_621) rfl ?_
      intro x27 hx27
      refine ev_r_jn (Q := fun K => ∀ (x28 : Int) (hx28 : ev_rng x28), ∀ (x29 : Int) (hx29 : ev_rng x29), ∀ (s37 : ev_St) (w30 : List (Nat × Value)), ev_lk w30 0 = some (.ref 621) → ev_lk w30 1 = some (.int (Int32.ofInt x1)) → ev_lk w30 2 = some (.int (Int32.ofInt x2)) → ev_lk w30 3 = some (.int (Int32.ofInt x3)) → ev_lk w30 4 = some (.int (Int32.ofInt x17)) → ev_lk w30 5 = some (.int (Int32.ofInt x28)) → ev_w none (ev_Mof 336) d 68 w30 [.int (Int32.ofInt x29)] s37 (K x28 x29 s37) ev_eI ev_bl) ?_ ?_
      · intro x28 hx28 x29 hx29 s37 w30 e31 e32 e33 e34 e35 e36
        refine ev_r_istore (pc := 68) (k := 6) (by decide +kernel) (by decide +kernel) rfl ?_
        refine ev_r_iload_n (pc := 70) (k := 3) (v := Int32.ofInt x3) (by decide +kernel) (by exact (ev_l1 e34 (by decide) (by decide))) ?_
        refine ev_r_iconst (pc := 71) (k := 3) (by decide +kernel) ?_
        refine ev_r_iadd (pc := 72) (by decide +kernel) ?_
        intro x38 hx38
        refine ev_r_aload_n (pc := 73) (k := 0) (v := .ref 621) trivial (by decide +kernel) (by exact (ev_l1 e31 (by decide) (by decide))) ?_
        refine ev_r_getI (pc := 74) (y := 346) (ci := 13) (f := 1) (fin := 0) (by decide +kernel) (by decide +kernel) (by exact ev_ob_621) rfl ?_
        intro x39 hx39
        refine ev_r_jn (Q := fun K => ∀ (x40 : Int) (hx40 : ev_rng x40), ∀ (x41 : Int) (hx41 : ev_rng x41), ∀ (s50 : ev_St) (w42 : List (Nat × Value)), ev_lk w42 0 = some (.ref 621) → ev_lk w42 1 = some (.int (Int32.ofInt x1)) → ev_lk w42 2 = some (.int (Int32.ofInt x2)) → ev_lk w42 3 = some (.int (Int32.ofInt x3)) → ev_lk w42 4 = some (.int (Int32.ofInt x17)) → ev_lk w42 5 = some (.int (Int32.ofInt x28)) → ev_lk w42 6 = some (.int (Int32.ofInt x40)) → ev_w none (ev_Mof 336) d 92 w42 [.int (Int32.ofInt x41)] s50 (K x40 x41 s50) ev_eI ev_bl) ?_ ?_
        · intro x40 hx40 x41 hx41 s50 w42 e43 e44 e45 e46 e47 e48 e49
          refine ev_r_istore (pc := 92) (k := 7) (by decide +kernel) (by decide +kernel) rfl ?_
          refine ev_r_iinc (pc := 94) (k := 3) (c := 1) (x := x3) (by decide +kernel) (by decide +kernel) (by exact (ev_l1 e46 (by decide) (by decide))) (fun _ => rfl) ?_
          intro x51 hx51
          refine ev_r_iload (pc := 97) (k := 4) (v := Int32.ofInt x17) (by decide +kernel) (by exact (ev_l1 (ev_l1 e47 (by decide) (by decide)) (by decide) (by decide))) ?_
          refine ev_r_bipush (pc := 99) (k := 36) (by decide +kernel) (by decide +kernel) ?_
          refine ev_r_jn (Q := fun K => ∀ (x52 : Int) (hx52 : ev_rng x52), ∀ (x53 : Int) (hx53 : ev_rng x53), ∀ (x54 : Int) (hx54 : ev_rng x54), ∀ (s60 : ev_St) (w55 : List (Nat × Value)), ev_lk w55 0 = some (.ref 621) → ev_lk w55 1 = some (.int (Int32.ofInt x52)) → ev_lk w55 2 = some (.int (Int32.ofInt x53)) → ev_lk w55 3 = some (.int (Int32.ofInt x54)) → ev_w none (ev_Mof 336) d 310 w55 [] s60 (K x52 x53 x54 s60) ev_eI ev_bl) ?_ ?_
          · intro x52 hx52 x53 hx53 x54 hx54 s60 w55 e56 e57 e58 e59
            refine ev_r_goto (pc := 310) (o := (-304)) (t := 6) (by decide +kernel) (by decide +kernel) ?_
            exact hK6 x52 hx52 x53 hx53 x54 hx54 s60 _ (by exact e56) (by exact e57) (by exact e58) (by exact e59)
          · intro K310 hK310
            refine ev_r_jn (Q := fun K => ∀ (x61 : Int) (hx61 : ev_rng x61), ∀ (x62 : Int) (hx62 : ev_rng x62), ∀ (s72 : ev_St) (w63 : List (Nat × Value)), ev_lk w63 0 = some (.ref 621) → ev_lk w63 1 = some (.int (Int32.ofInt x1)) → ev_lk w63 2 = some (.int (Int32.ofInt x2)) → ev_lk w63 3 = some (.int (Int32.ofInt x61)) → ev_lk w63 4 = some (.int (Int32.ofInt x17)) → ev_lk w63 5 = some (.int (Int32.ofInt x28)) → ev_lk w63 6 = some (.int (Int32.ofInt x40)) → ev_lk w63 7 = some (.int (Int32.ofInt x62)) → ev_w none (ev_Mof 336) d 118 w63 [] s72 (K x61 x62 s72) ev_eI ev_bl) ?_ ?_
            · intro x61 hx61 x62 hx62 s72 w63 e64 e65 e66 e67 e68 e69 e70 e71
              refine ev_r_iload (pc := 118) (k := 4) (v := Int32.ofInt x17) (by decide +kernel) (by exact e68) ?_
              refine ev_r_bipush (pc := 120) (k := 36) (by decide +kernel) (by decide +kernel) ?_
              refine ev_r_icmp (pc := 122) (q := .ne) (o := 41) (t := 163) (c := x17 ≠ 36) (by decide +kernel) (ev_k_ne hx17 (by decide)) (by decide +kernel) ?_ ?_
              · intro c73
                refine ev_r_iload (pc := 163) (k := 4) (v := Int32.ofInt x17) (by decide +kernel) (by exact e68) ?_
                refine ev_r_bipush (pc := 165) (k := 92) (by decide +kernel) (by decide +kernel) ?_
                refine ev_r_icmp (pc := 167) (q := .ne) (o := 55) (t := 222) (c := x17 ≠ 92) (by decide +kernel) (ev_k_ne hx17 (by decide)) (by decide +kernel) ?_ ?_
                · intro c74
                  refine ev_r_iload (pc := 222) (k := 4) (v := Int32.ofInt x17) (by decide +kernel) (by exact e68) ?_
                  refine ev_r_bipush (pc := 224) (k := 63) (by decide +kernel) (by decide +kernel) ?_
                  refine ev_r_icmp (pc := 226) (q := .ne) (o := 40) (t := 266) (c := x17 ≠ 63) (by decide +kernel) (ev_k_ne hx17 (by decide)) (by decide +kernel) ?_ ?_
                  · intro c75
                    refine ev_r_iload_n (pc := 266) (k := 2) (v := Int32.ofInt x2) (by decide +kernel) (by exact e66) ?_
                    refine ev_r_jn (Q := fun K => ∀ (s82 : ev_St) (w76 : List (Nat × Value)), ev_lk w76 0 = some (.ref 621) → ev_lk w76 1 = some (.int (Int32.ofInt x1)) → ev_lk w76 2 = some (.int (Int32.ofInt x2)) → ev_lk w76 3 = some (.int (Int32.ofInt x61)) → ev_lk w76 4 = some (.int (Int32.ofInt x17)) → ev_w none (ev_Mof 336) d 282 w76 [] s82 (K  s82) ev_eI ev_bl) ?_ ?_
                    · intro  s82 w76 e77 e78 e79 e80 e81
                      refine ev_r_iload_n (pc := 282) (k := 2) (v := Int32.ofInt x2) (by decide +kernel) (by exact e79) ?_
                      refine ev_r_if (pc := 283) (q := .le) (o := 27) (t := 310) (c := x2 ≤ 0) (by decide +kernel) (ev_k_le hx2 ev_rng0) (by decide +kernel) ?_ ?_
                      · intro c83
                        exact hK310 x1 hx1 x2 hx2 x61 hx61 s82 _ (by exact e77) (by exact e78) (by exact e79) (by exact e80)
                      · intro c83
                        refine ev_r_iload (pc := 286) (k := 4) (v := Int32.ofInt x17) (by decide +kernel) (by exact e81) ?_
                        refine ev_r_bipush (pc := 288) (k := 124) (by decide +kernel) (by decide +kernel) ?_
                        refine ev_r_icmp (pc := 290) (q := .ne) (o := 20) (t := 310) (c := x17 ≠ 124) (by decide +kernel) (ev_k_ne hx17 (by decide)) (by decide +kernel) ?_ ?_
                        · intro c84
                          exact hK310 x1 hx1 x2 hx2 x61 hx61 s82 _ (by exact e77) (by exact e78) (by exact e79) (by exact e80)
                        · intro c84
                          refine ev_r_iload_n (pc := 293) (k := 1) (v := Int32.ofInt x1) (by decide +kernel) (by exact e78) ?_
                          refine ev_r_jn (Q := fun K => ∀ (x85 : Int) (hx85 : ev_rng x85), ∀ (s89 : ev_St) (w86 : List (Nat × Value)), ev_lk w86 0 = some (.ref 621) → ev_lk w86 3 = some (.int (Int32.ofInt x61)) → ev_w none (ev_Mof 336) d 307 w86 [.int (Int32.ofInt x85)] s89 (K x85 s89) ev_eI ev_bl) ?_ ?_
                          · intro x85 hx85 s89 w86 e87 e88
                            refine ev_r_istore_n (pc := 307) (k := 1) (by decide +kernel) (by decide +kernel) rfl ?_
                            refine ev_r_iconst (pc := 308) (k := 2) (by decide +kernel) ?_
                            refine ev_r_istore_n (pc := 309) (k := 2) (by decide +kernel) (by decide +kernel) rfl ?_
                            exact hK310 x85 hx85 2 (by decide) x61 hx61 s89 _ (by exact (ev_l1 (ev_lk_st1 e87 (by decide) rfl) (by decide) (by decide))) (by exact (ev_lk_st1 ev_lk_st1_self (by decide) rfl)) (by exact ev_lk_st1_self) (by exact (ev_l1 (ev_l1 e88 (by decide) (by decide)) (by decide) (by decide)))
                          · intro K307 hK307
                            refine ev_r_jn (Q := fun K => ∀ (s93 : ev_St) (w90 : List (Nat × Value)), ev_lk w90 0 = some (.ref 621) → ev_lk w90 3 = some (.int (Int32.ofInt x61)) → ev_w none (ev_Mof 336) d 306 w90 [] s93 (K  s93) ev_eI ev_bl) ?_ ?_
                            · intro  s93 w90 e91 e92
                              refine ev_r_iconst (pc := 306) (k := 0) (by decide +kernel) ?_
                              exact hK307 0 (by decide) s93 _ (by exact e91) (by exact e92)
                            · intro K306 hK306
                              refine ev_r_if (pc := 294) (q := .eq) (o := 12) (t := 306) (c := x1 = 0) (by decide +kernel) (ev_k_eq hx1 ev_rng0) (by decide +kernel) ?_ ?_
                              · intro c94
                                exact hK306  s82 _ (by exact e77) (by exact e80)
                              · intro c94
                                refine ev_r_iload_n (pc := 297) (k := 2) (v := Int32.ofInt x2) (by decide +kernel) (by exact e79) ?_
                                refine ev_r_iconst (pc := 298) (k := 1) (by decide +kernel) ?_
                                refine ev_r_icmp (pc := 299) (q := .ne) (o := 7) (t := 306) (c := x2 ≠ 1) (by decide +kernel) (ev_k_ne hx2 (by decide)) (by decide +kernel) ?_ ?_
                                · intro c95
                                  exact hK306  s82 _ (by exact e77) (by exact e80)
                                · intro c95
                                  refine ev_r_iconst (pc := 302) (k := 1) (by decide +kernel) ?_
                                  refine ev_r_goto (pc := 303) (o := 4) (t := 307) (by decide +kernel) (by decide +kernel) ?_
                                  exact hK307 1 (by decide) s82 _ (by exact e77) (by exact e80)
                    · intro K282 hK282
                      refine ev_r_if (pc := 267) (q := .le) (o := 15) (t := 282) (c := x2 ≤ 0) (by decide +kernel) (ev_k_le hx2 ev_rng0) (by decide +kernel) ?_ ?_
                      · intro c96
                        exact hK282  s72 _ (by exact e64) (by exact e65) (by exact e66) (by exact e67) (by exact e68)
                      · intro c96
                        refine ev_r_iload (pc := 270) (k := 4) (v := Int32.ofInt x17) (by decide +kernel) (by exact e68) ?_
                        refine ev_r_bipush (pc := 272) (k := 125) (by decide +kernel) (by decide +kernel) ?_
                        refine ev_r_icmp (pc := 274) (q := .ne) (o := 8) (t := 282) (c := x17 ≠ 125) (by decide +kernel) (ev_k_ne hx17 (by decide)) (by decide +kernel) ?_ ?_
                        · intro c97
                          exact hK282  s72 _ (by exact e64) (by exact e65) (by exact e66) (by exact e67) (by exact e68)
                        · intro c97
                          refine ev_r_iconst (pc := 277) (k := 0) (by decide +kernel) ?_
                          refine ev_r_istore_n (pc := 278) (k := 2) (by decide +kernel) (by decide +kernel) rfl ?_
                          refine ev_r_goto (pc := 279) (o := 31) (t := 310) (by decide +kernel) (by decide +kernel) ?_
                          exact hK310 x1 hx1 0 (by decide) x61 hx61 s72 _ (by exact (ev_l1 e64 (by decide) (by decide))) (by exact (ev_lk_st1 e65 (by decide) rfl)) (by exact ev_lk_st1_self) (by exact (ev_l1 e67 (by decide) (by decide)))
                  · intro c75
                    refine ev_r_iload_n (pc := 229) (k := 1) (v := Int32.ofInt x1) (by decide +kernel) (by exact e65) ?_
                    refine ev_r_jn (Q := fun K => ∀ (x98 : Int) (hx98 : ev_rng x98), ∀ (s102 : ev_St) (w99 : List (Nat × Value)), ev_lk w99 0 = some (.ref 621) → ev_lk w99 3 = some (.int (Int32.ofInt x61)) → ev_w none (ev_Mof 336) d 257 w99 [.int (Int32.ofInt x98)] s102 (K x98 s102) ev_eI ev_bl) ?_ ?_
                    · intro x98 hx98 s102 w99 e100 e101
                      refine ev_r_istore_n (pc := 257) (k := 1) (by decide +kernel) (by decide +kernel) rfl ?_
                      refine ev_r_iconst (pc := 258) (k := 1) (by decide +kernel) ?_
                      refine ev_r_istore_n (pc := 259) (k := 2) (by decide +kernel) (by decide +kernel) rfl ?_
                      refine ev_r_iinc (pc := 260) (k := 3) (c := 2) (x := x61) (by decide +kernel) (by decide +kernel) (by exact (ev_l1 (ev_l1 e101 (by decide) (by decide)) (by decide) (by decide))) (fun _ => rfl) ?_
                      intro x103 hx103
                      refine ev_r_goto (pc := 263) (o := 47) (t := 310) (by decide +kernel) (by decide +kernel) ?_
                      exact hK310 x98 hx98 1 (by decide) x103 hx103 s102 _ (by exact (ev_l1 (ev_l1 (ev_lk_st1 e100 (by decide) rfl) (by decide) (by decide)) (by decide) (by decide))) (by exact (ev_l1 (ev_lk_st1 ev_lk_st1_self (by decide) rfl) (by decide) (by decide))) (by exact (ev_lk_st1 ev_lk_st1_self (by decide) rfl)) (by exact ev_lk_st1_self)
                    · intro K257 hK257
                      refine ev_r_jn (Q := fun K => ∀ (s107 : ev_St) (w104 : List (Nat × Value)), ev_lk w104 0 = some (.ref 621) → ev_lk w104 3 = some (.int (Int32.ofInt x61)) → ev_w none (ev_Mof 336) d 256 w104 [] s107 (K  s107) ev_eI ev_bl) ?_ ?_
                      · intro  s107 w104 e105 e106
                        refine ev_r_iconst (pc := 256) (k := 0) (by decide +kernel) ?_
                        exact hK257 0 (by decide) s107 _ (by exact e105) (by exact e106)
                      · intro K256 hK256
                        refine ev_r_if (pc := 230) (q := .eq) (o := 26) (t := 256) (c := x1 = 0) (by decide +kernel) (ev_k_eq hx1 ev_rng0) (by decide +kernel) ?_ ?_
                        · intro c108
                          exact hK256  s72 _ (by exact e64) (by exact e67)
                        · intro c108
                          refine ev_r_iload_n (pc := 233) (k := 2) (v := Int32.ofInt x2) (by decide +kernel) (by exact e66) ?_
                          refine ev_r_if (pc := 234) (q := .ne) (o := 22) (t := 256) (c := x2 ≠ 0) (by decide +kernel) (ev_k_ne hx2 ev_rng0) (by decide +kernel) ?_ ?_
                          · intro c109
                            exact hK256  s72 _ (by exact e64) (by exact e67)
                          · intro c109
                            refine ev_r_iload (pc := 237) (k := 5) (v := Int32.ofInt x28) (by decide +kernel) (by exact e69) ?_
                            refine ev_r_stat (pc := 239) (y := 336) (kind := 2) (mi := 226) (na := 1) (as := [.int (Int32.ofInt x28)]) (rest := []) (encc := ev_oI) (Q := ev_bl) (fun x S1 h => jt_226 d (by omega) Q x28 hx28 s72 x S1 h) (Or.inl rfl) (by decide +kernel) (by decide +kernel) (by decide +kernel) (by decide +kernel) rfl (by (try simp only [ev_sum, ev_nv_cat]); first | done | rfl) ?_
                            intro x111 s110 hx111
                            replace hx111 := ev_bl_rng hx111
                            show ev_w _ _ _ _ _ [.int (Int32.ofInt x111)] _ _ _ _
                            refine ev_r_if (pc := 242) (q := .eq) (o := 14) (t := 256) (c := x111 = 0) (by decide +kernel) (ev_k_eq hx111 ev_rng0) (by decide +kernel) ?_ ?_
                            · intro c112
                              exact hK256  s110 _ (by exact e64) (by exact e67)
                            · intro c112
                              refine ev_r_iload (pc := 245) (k := 6) (v := Int32.ofInt x40) (by decide +kernel) (by exact e70) ?_
                              refine ev_r_bipush (pc := 247) (k := 123) (by decide +kernel) (by decide +kernel) ?_
                              refine ev_r_icmp (pc := 249) (q := .ne) (o := 7) (t := 256) (c := x40 ≠ 123) (by decide +kernel) (ev_k_ne hx40 (by decide)) (by decide +kernel) ?_ ?_
                              · intro c113
                                exact hK256  s110 _ (by exact e64) (by exact e67)
                              · intro c113
                                refine ev_r_iconst (pc := 252) (k := 1) (by decide +kernel) ?_
                                refine ev_r_goto (pc := 253) (o := 4) (t := 257) (by decide +kernel) (by decide +kernel) ?_
                                exact hK257 1 (by decide) s110 _ (by exact e64) (by exact e67)
                · intro c74
                  refine ev_r_iload_n (pc := 170) (k := 1) (v := Int32.ofInt x1) (by decide +kernel) (by exact e65) ?_
                  refine ev_r_jn (Q := fun K => ∀ (x114 : Int) (hx114 : ev_rng x114), ∀ (s119 : ev_St) (w115 : List (Nat × Value)), ev_lk w115 0 = some (.ref 621) → ev_lk w115 2 = some (.int (Int32.ofInt x2)) → ev_lk w115 3 = some (.int (Int32.ofInt x61)) → ev_w none (ev_Mof 336) d 215 w115 [.int (Int32.ofInt x114)] s119 (K x114 s119) ev_eI ev_bl) ?_ ?_
                  · intro x114 hx114 s119 w115 e116 e117 e118
                    refine ev_r_istore_n (pc := 215) (k := 1) (by decide +kernel) (by decide +kernel) rfl ?_
                    refine ev_r_iinc (pc := 216) (k := 3) (c := 1) (x := x61) (by decide +kernel) (by decide +kernel) (by exact (ev_l1 e118 (by decide) (by decide))) (fun _ => rfl) ?_
                    intro x120 hx120
                    refine ev_r_goto (pc := 219) (o := 91) (t := 310) (by decide +kernel) (by decide +kernel) ?_
                    exact hK310 x114 hx114 x2 hx2 x120 hx120 s119 _ (by exact (ev_l1 (ev_lk_st1 e116 (by decide) rfl) (by decide) (by decide))) (by exact (ev_l1 ev_lk_st1_self (by decide) (by decide))) (by exact (ev_lk_st1 (ev_l1 e117 (by decide) (by decide)) (by decide) rfl)) (by exact ev_lk_st1_self)
                  · intro K215 hK215
                    refine ev_r_jn (Q := fun K => ∀ (s125 : ev_St) (w121 : List (Nat × Value)), ev_lk w121 0 = some (.ref 621) → ev_lk w121 2 = some (.int (Int32.ofInt x2)) → ev_lk w121 3 = some (.int (Int32.ofInt x61)) → ev_w none (ev_Mof 336) d 214 w121 [] s125 (K  s125) ev_eI ev_bl) ?_ ?_
                    · intro  s125 w121 e122 e123 e124
                      refine ev_r_iconst (pc := 214) (k := 0) (by decide +kernel) ?_
                      exact hK215 0 (by decide) s125 _ (by exact e122) (by exact e123) (by exact e124)
                    · intro K214 hK214
                      refine ev_r_if (pc := 171) (q := .eq) (o := 43) (t := 214) (c := x1 = 0) (by decide +kernel) (ev_k_eq hx1 ev_rng0) (by decide +kernel) ?_ ?_
                      · intro c126
                        exact hK214  s72 _ (by exact e64) (by exact e66) (by exact e67)
                      · intro c126
                        refine ev_r_iload (pc := 174) (k := 5) (v := Int32.ofInt x28) (by decide +kernel) (by exact e69) ?_
                        refine ev_r_bipush (pc := 176) (k := 85) (by decide +kernel) (by decide +kernel) ?_
                        refine ev_r_jn (Q := fun K => ∀ (s131 : ev_St) (w127 : List (Nat × Value)), ev_lk w127 0 = some (.ref 621) → ev_lk w127 2 = some (.int (Int32.ofInt x2)) → ev_lk w127 3 = some (.int (Int32.ofInt x61)) → ev_w none (ev_Mof 336) d 210 w127 [] s131 (K  s131) ev_eI ev_bl) ?_ ?_
                        · intro  s131 w127 e128 e129 e130
                          refine ev_r_iconst (pc := 210) (k := 1) (by decide +kernel) ?_
                          refine ev_r_goto (pc := 211) (o := 4) (t := 215) (by decide +kernel) (by decide +kernel) ?_
                          exact hK215 1 (by decide) s131 _ (by exact e128) (by exact e129) (by exact e130)
                        · intro K210 hK210
                          refine ev_r_icmp (pc := 178) (q := .eq) (o := 32) (t := 210) (c := x28 = 85) (by decide +kernel) (ev_k_eq hx28 (by decide)) (by decide +kernel) ?_ ?_
                          · intro c132
                            exact hK210  s72 _ (by exact e64) (by exact e66) (by exact e67)
                          · intro c132
                            refine ev_r_iload (pc := 181) (k := 5) (v := Int32.ofInt x28) (by decide +kernel) (by exact e69) ?_
                            refine ev_r_bipush (pc := 183) (k := 76) (by decide +kernel) (by decide +kernel) ?_
                            refine ev_r_icmp (pc := 185) (q := .eq) (o := 25) (t := 210) (c := x28 = 76) (by decide +kernel) (ev_k_eq hx28 (by decide)) (by decide +kernel) ?_ ?_
                            · intro c133
                              exact hK210  s72 _ (by exact e64) (by exact e66) (by exact e67)
                            · intro c133
                              refine ev_r_iload (pc := 188) (k := 5) (v := Int32.ofInt x28) (by decide +kernel) (by exact e69) ?_
                              refine ev_r_bipush (pc := 190) (k := 69) (by decide +kernel) (by decide +kernel) ?_
                              refine ev_r_icmp (pc := 192) (q := .eq) (o := 18) (t := 210) (c := x28 = 69) (by decide +kernel) (ev_k_eq hx28 (by decide)) (by decide +kernel) ?_ ?_
                              · intro c134
                                exact hK210  s72 _ (by exact e64) (by exact e66) (by exact e67)
                              · intro c134
                                refine ev_r_iload (pc := 195) (k := 5) (v := Int32.ofInt x28) (by decide +kernel) (by exact e69) ?_
                                refine ev_r_bipush (pc := 197) (k := 110) (by decide +kernel) (by decide +kernel) ?_
                                refine ev_r_icmp (pc := 199) (q := .eq) (o := 11) (t := 210) (c := x28 = 110) (by decide +kernel) (ev_k_eq hx28 (by decide)) (by decide +kernel) ?_ ?_
                                · intro c135
                                  exact hK210  s72 _ (by exact e64) (by exact e66) (by exact e67)
                                · intro c135
                                  refine ev_r_iload (pc := 202) (k := 5) (v := Int32.ofInt x28) (by decide +kernel) (by exact e69) ?_
                                  refine ev_r_stat (pc := 204) (y := 412) (kind := 2) (mi := 228) (na := 1) (as := [.int (Int32.ofInt x28)]) (rest := []) (encc := ev_oI) (Q := ev_bl) (fun x S1 h => jt_228 d (by omega) Q x28 hx28 s72 x S1 h) (Or.inl rfl) (by decide +kernel) (by decide +kernel) (by decide +kernel) (by decide +kernel) rfl (by (try simp only [ev_sum, ev_nv_cat]); first | done | rfl) ?_
                                  intro x137 s136 hx137
                                  replace hx137 := ev_bl_rng hx137
                                  show ev_w _ _ _ _ _ [.int (Int32.ofInt x137)] _ _ _ _
                                  refine ev_r_if (pc := 207) (q := .eq) (o := 7) (t := 214) (c := x137 = 0) (by decide +kernel) (ev_k_eq hx137 ev_rng0) (by decide +kernel) ?_ ?_
                                  · intro c138
                                    exact hK214  s136 _ (by exact e64) (by exact e66) (by exact e67)
                                  · intro c138
                                    exact hK210  s136 _ (by exact e64) (by exact e66) (by exact e67)
              · intro c73
                refine ev_r_iload_n (pc := 125) (k := 1) (v := Int32.ofInt x1) (by decide +kernel) (by exact e65) ?_
                refine ev_r_jn (Q := fun K => ∀ (x139 : Int) (hx139 : ev_rng x139), ∀ (s144 : ev_St) (w140 : List (Nat × Value)), ev_lk w140 0 = some (.ref 621) → ev_lk w140 2 = some (.int (Int32.ofInt x2)) → ev_lk w140 3 = some (.int (Int32.ofInt x61)) → ev_w none (ev_Mof 336) d 156 w140 [.int (Int32.ofInt x139)] s144 (K x139 s144) ev_eI ev_bl) ?_ ?_
                · intro x139 hx139 s144 w140 e141 e142 e143
                  refine ev_r_istore_n (pc := 156) (k := 1) (by decide +kernel) (by decide +kernel) rfl ?_
                  refine ev_r_iinc (pc := 157) (k := 3) (c := 3) (x := x61) (by decide +kernel) (by decide +kernel) (by exact (ev_l1 e143 (by decide) (by decide))) (fun _ => rfl) ?_
                  intro x145 hx145
                  refine ev_r_goto (pc := 160) (o := 150) (t := 310) (by decide +kernel) (by decide +kernel) ?_
                  exact hK310 x139 hx139 x2 hx2 x145 hx145 s144 _ (by exact (ev_l1 (ev_lk_st1 e141 (by decide) rfl) (by decide) (by decide))) (by exact (ev_l1 ev_lk_st1_self (by decide) (by decide))) (by exact (ev_lk_st1 (ev_l1 e142 (by decide) (by decide)) (by decide) rfl)) (by exact ev_lk_st1_self)
                · intro K156 hK156
                  refine ev_r_jn (Q := fun K => ∀ (s150 : ev_St) (w146 : List (Nat × Value)), ev_lk w146 0 = some (.ref 621) → ev_lk w146 2 = some (.int (Int32.ofInt x2)) → ev_lk w146 3 = some (.int (Int32.ofInt x61)) → ev_w none (ev_Mof 336) d 155 w146 [] s150 (K  s150) ev_eI ev_bl) ?_ ?_
                  · intro  s150 w146 e147 e148 e149
                    refine ev_r_iconst (pc := 155) (k := 0) (by decide +kernel) ?_
                    exact hK156 0 (by decide) s150 _ (by exact e147) (by exact e148) (by exact e149)
                  · intro K155 hK155
                    refine ev_r_if (pc := 126) (q := .eq) (o := 29) (t := 155) (c := x1 = 0) (by decide +kernel) (ev_k_eq hx1 ev_rng0) (by decide +kernel) ?_ ?_
                    · intro c151
                      exact hK155  s72 _ (by exact e64) (by exact e66) (by exact e67)
                    · intro c151
                      refine ev_r_iload (pc := 129) (k := 5) (v := Int32.ofInt x28) (by decide +kernel) (by exact e69) ?_
                      refine ev_r_bipush (pc := 131) (k := 123) (by decide +kernel) (by decide +kernel) ?_
                      refine ev_r_icmp (pc := 133) (q := .ne) (o := 22) (t := 155) (c := x28 ≠ 123) (by decide +kernel) (ev_k_ne hx28 (by decide)) (by decide +kernel) ?_ ?_
                      · intro c152
                        exact hK155  s72 _ (by exact e64) (by exact e66) (by exact e67)
                      · intro c152
                        refine ev_r_iload (pc := 136) (k := 6) (v := Int32.ofInt x40) (by decide +kernel) (by exact e70) ?_
                        refine ev_r_stat (pc := 138) (y := 329) (kind := 2) (mi := 224) (na := 1) (as := [.int (Int32.ofInt x40)]) (rest := []) (encc := ev_oI) (Q := ev_bl) (fun x S1 h => jt_224 d (by omega) Q x40 hx40 s72 x S1 h) (Or.inl rfl) (by decide +kernel) (by decide +kernel) (by decide +kernel) (by decide +kernel) rfl (by (try simp only [ev_sum, ev_nv_cat]); first | done | rfl) ?_
                        intro x154 s153 hx154
                        replace hx154 := ev_bl_rng hx154
                        show ev_w _ _ _ _ _ [.int (Int32.ofInt x154)] _ _ _ _
                        refine ev_r_if (pc := 141) (q := .eq) (o := 14) (t := 155) (c := x154 = 0) (by decide +kernel) (ev_k_eq hx154 ev_rng0) (by decide +kernel) ?_ ?_
                        · intro c155
                          exact hK155  s153 _ (by exact e64) (by exact e66) (by exact e67)
                        · intro c155
                          refine ev_r_iload (pc := 144) (k := 7) (v := Int32.ofInt x62) (by decide +kernel) (by exact e71) ?_
                          refine ev_r_bipush (pc := 146) (k := 125) (by decide +kernel) (by decide +kernel) ?_
                          refine ev_r_icmp (pc := 148) (q := .ne) (o := 7) (t := 155) (c := x62 ≠ 125) (by decide +kernel) (ev_k_ne hx62 (by decide)) (by decide +kernel) ?_ ?_
                          · intro c156
                            exact hK155  s153 _ (by exact e64) (by exact e66) (by exact e67)
                          · intro c156
                            refine ev_r_iconst (pc := 151) (k := 1) (by decide +kernel) ?_
                            refine ev_r_goto (pc := 152) (o := 4) (t := 156) (by decide +kernel) (by decide +kernel) ?_
                            exact hK156 1 (by decide) s153 _ (by exact e64) (by exact e66) (by exact e67)
            · intro K118 hK118
              refine ev_r_icmp (pc := 101) (q := .ne) (o := 17) (t := 118) (c := x17 ≠ 36) (by decide +kernel) (ev_k_ne hx17 (by decide)) (by decide +kernel) ?_ ?_
              · intro c157
                exact hK118 x51 hx51 x41 hx41 s50 _ (by exact (ev_l1 (ev_l1 e43 (by decide) (by decide)) (by decide) (by decide))) (by exact (ev_l1 (ev_l1 e44 (by decide) (by decide)) (by decide) (by decide))) (by exact (ev_lk_st1 (ev_l1 e45 (by decide) (by decide)) (by decide) rfl)) (by exact ev_lk_st1_self) (by exact (ev_l1 (ev_l1 e47 (by decide) (by decide)) (by decide) (by decide))) (by exact (ev_l1 (ev_l1 e48 (by decide) (by decide)) (by decide) (by decide))) (by exact (ev_l1 (ev_lk_st1 e49 (by decide) rfl) (by decide) (by decide))) (by exact (ev_l1 ev_lk_st1_self (by decide) (by decide)))
              · intro c157
                refine ev_r_iload (pc := 104) (k := 5) (v := Int32.ofInt x28) (by decide +kernel) (by exact (ev_l1 (ev_l1 e48 (by decide) (by decide)) (by decide) (by decide))) ?_
                refine ev_r_stat (pc := 106) (y := 336) (kind := 2) (mi := 226) (na := 1) (as := [.int (Int32.ofInt x28)]) (rest := []) (encc := ev_oI) (Q := ev_bl) (fun x S1 h => jt_226 d (by omega) Q x28 hx28 s50 x S1 h) (Or.inl rfl) (by decide +kernel) (by decide +kernel) (by decide +kernel) (by decide +kernel) rfl (by (try simp only [ev_sum, ev_nv_cat]); first | done | rfl) ?_
                intro x159 s158 hx159
                replace hx159 := ev_bl_rng hx159
                show ev_w _ _ _ _ _ [.int (Int32.ofInt x159)] _ _ _ _
                refine ev_r_if (pc := 109) (q := .eq) (o := 9) (t := 118) (c := x159 = 0) (by decide +kernel) (ev_k_eq hx159 ev_rng0) (by decide +kernel) ?_ ?_
                · intro c160
                  exact hK118 x51 hx51 x41 hx41 s158 _ (by exact (ev_l1 (ev_l1 e43 (by decide) (by decide)) (by decide) (by decide))) (by exact (ev_l1 (ev_l1 e44 (by decide) (by decide)) (by decide) (by decide))) (by exact (ev_lk_st1 (ev_l1 e45 (by decide) (by decide)) (by decide) rfl)) (by exact ev_lk_st1_self) (by exact (ev_l1 (ev_l1 e47 (by decide) (by decide)) (by decide) (by decide))) (by exact (ev_l1 (ev_l1 e48 (by decide) (by decide)) (by decide) (by decide))) (by exact (ev_l1 (ev_lk_st1 e49 (by decide) rfl) (by decide) (by decide))) (by exact (ev_l1 ev_lk_st1_self (by decide) (by decide)))
                · intro c160
                  refine ev_r_iinc (pc := 112) (k := 3) (c := 1) (x := x51) (by decide +kernel) (by decide +kernel) (by exact ev_lk_st1_self) (fun _ => rfl) ?_
                  intro x161 hx161
                  refine ev_r_goto (pc := 115) (o := 195) (t := 310) (by decide +kernel) (by decide +kernel) ?_
                  exact hK310 x1 hx1 x2 hx2 x161 hx161 s158 _ (by exact (ev_l1 (ev_l1 (ev_l1 e43 (by decide) (by decide)) (by decide) (by decide)) (by decide) (by decide))) (by exact (ev_l1 (ev_l1 (ev_l1 e44 (by decide) (by decide)) (by decide) (by decide)) (by decide) (by decide))) (by exact (ev_lk_st1 (ev_lk_st1 (ev_l1 e45 (by decide) (by decide)) (by decide) rfl) (by decide) rfl)) (by exact ev_lk_st1_self)
        · intro K92 hK92
          refine ev_r_icmp (pc := 77) (q := .ge) (o := 14) (t := 91) (c := x39 ≤ x38) (by decide +kernel) (ev_k_ge hx38 hx39) (by decide +kernel) ?_ ?_
          · intro c162
            refine ev_r_iconst (pc := 91) (k := -1) (by decide +kernel) ?_
            exact hK92 x29 hx29 ((-1)) (by decide) s37 _ (by exact (ev_l1 e31 (by decide) (by decide))) (by exact (ev_l1 e32 (by decide) (by decide))) (by exact (ev_l1 e33 (by decide) (by decide))) (by exact (ev_l1 e34 (by decide) (by decide))) (by exact (ev_l1 e35 (by decide) (by decide))) (by exact (ev_lk_st1 e36 (by decide) rfl)) (by exact ev_lk_st1_self)
          · intro c162
            refine ev_r_aload_n (pc := 80) (k := 0) (v := .ref 621) trivial (by decide +kernel) (by exact (ev_l1 e31 (by decide) (by decide))) ?_
            refine ev_r_getC (pc := 81) (y := 7) (ci := 13) (f := 2) (fin := 1) (k' := 622) (by decide +kernel) (by decide +kernel) (by exact ev_ob_621) rfl rfl ?_
            refine ev_r_iload_n (pc := 84) (k := 3) (v := Int32.ofInt x3) (by decide +kernel) (by exact (ev_l1 e34 (by decide) (by decide))) ?_
            refine ev_r_iconst (pc := 85) (k := 3) (by decide +kernel) ?_
            refine ev_r_iadd (pc := 86) (by decide +kernel) ?_
            intro x163 hx163
            refine ev_r_iald (pc := 87) hx163 (by decide +kernel) (by exact ev_ab_622) ?_
            intro x164 hx164
            refine ev_r_goto (pc := 88) (o := 4) (t := 92) (by decide +kernel) (by decide +kernel) ?_
            exact hK92 x29 hx29 x164 hx164 s37 _ (by exact (ev_l1 e31 (by decide) (by decide))) (by exact (ev_l1 e32 (by decide) (by decide))) (by exact (ev_l1 e33 (by decide) (by decide))) (by exact (ev_l1 e34 (by decide) (by decide))) (by exact (ev_l1 e35 (by decide) (by decide))) (by exact (ev_lk_st1 e36 (by decide) rfl)) (by exact ev_lk_st1_self)
      · intro K68 hK68
        refine ev_r_icmp (pc := 53) (q := .ge) (o := 14) (t := 67) (c := x27 ≤ x26) (by decide +kernel) (ev_k_ge hx26 hx27) (by decide +kernel) ?_ ?_
        · intro c165
          refine ev_r_iconst (pc := 67) (k := -1) (by decide +kernel) ?_
          exact hK68 x18 hx18 ((-1)) (by decide) s25 _ (by exact (ev_l1 e20 (by decide) (by decide))) (by exact (ev_l1 e21 (by decide) (by decide))) (by exact (ev_l1 e22 (by decide) (by decide))) (by exact (ev_l1 e23 (by decide) (by decide))) (by exact (ev_lk_st1 e24 (by decide) rfl)) (by exact ev_lk_st1_self)
        · intro c165
          refine ev_r_aload_n (pc := 56) (k := 0) (v := .ref 621) trivial (by decide +kernel) (by exact (ev_l1 e20 (by decide) (by decide))) ?_
          refine ev_r_getC (pc := 57) (y := 7) (ci := 13) (f := 2) (fin := 1) (k' := 622) (by decide +kernel) (by decide +kernel) (by exact ev_ob_621) rfl rfl ?_
          refine ev_r_iload_n (pc := 60) (k := 3) (v := Int32.ofInt x3) (by decide +kernel) (by exact (ev_l1 e23 (by decide) (by decide))) ?_
          refine ev_r_iconst (pc := 61) (k := 2) (by decide +kernel) ?_
          refine ev_r_iadd (pc := 62) (by decide +kernel) ?_
          intro x166 hx166
          refine ev_r_iald (pc := 63) hx166 (by decide +kernel) (by exact ev_ab_622) ?_
          intro x167 hx167
          refine ev_r_goto (pc := 64) (o := 4) (t := 68) (by decide +kernel) (by decide +kernel) ?_
          exact hK68 x18 hx18 x167 hx167 s25 _ (by exact (ev_l1 e20 (by decide) (by decide))) (by exact (ev_l1 e21 (by decide) (by decide))) (by exact (ev_l1 e22 (by decide) (by decide))) (by exact (ev_l1 e23 (by decide) (by decide))) (by exact (ev_lk_st1 e24 (by decide) rfl)) (by exact ev_lk_st1_self)
    · intro K44 hK44
      refine ev_r_icmp (pc := 29) (q := .ge) (o := 14) (t := 43) (c := x16 ≤ x15) (by decide +kernel) (ev_k_ge hx15 hx16) (by decide +kernel) ?_ ?_
      · intro c168
        refine ev_r_iconst (pc := 43) (k := -1) (by decide +kernel) ?_
        exact hK44 x14 hx14 ((-1)) (by decide) s9 _ (by exact (ev_l1 e5 (by decide) (by decide))) (by exact (ev_l1 e6 (by decide) (by decide))) (by exact (ev_l1 e7 (by decide) (by decide))) (by exact (ev_lk_st1 e8 (by decide) rfl)) (by exact ev_lk_st1_self)
      · intro c168
        refine ev_r_aload_n (pc := 32) (k := 0) (v := .ref 621) trivial (by decide +kernel) (by exact (ev_l1 e5 (by decide) (by decide))) ?_
        refine ev_r_getC (pc := 33) (y := 7) (ci := 13) (f := 2) (fin := 1) (k' := 622) (by decide +kernel) (by decide +kernel) (by exact ev_ob_621) rfl rfl ?_
        refine ev_r_iload_n (pc := 36) (k := 3) (v := Int32.ofInt x3) (by decide +kernel) (by exact (ev_lk_st1 e8 (by decide) rfl)) ?_
        refine ev_r_iconst (pc := 37) (k := 1) (by decide +kernel) ?_
        refine ev_r_iadd (pc := 38) (by decide +kernel) ?_
        intro x169 hx169
        refine ev_r_iald (pc := 39) hx169 (by decide +kernel) (by exact ev_ab_622) ?_
        intro x170 hx170
        refine ev_r_goto (pc := 40) (o := 4) (t := 44) (by decide +kernel) (by decide +kernel) ?_
        exact hK44 x14 hx14 x170 hx170 s9 _ (by exact (ev_l1 e5 (by decide) (by decide))) (by exact (ev_l1 e6 (by decide) (by decide))) (by exact (ev_l1 e7 (by decide) (by decide))) (by exact (ev_lk_st1 e8 (by decide) rfl)) (by exact ev_lk_st1_self)
theorem jlt_336_6 (d : Nat) (hd : 5 ≤ d + 1) (Q : Nat)     : ∀ q : Nat, ∀ (x1 : Int) (hx1 : ev_rng x1), ∀ (x2 : Int) (hx2 : ev_rng x2), ∀ (x3 : Int) (hx3 : ev_rng x3), ∀ (s9 : ev_St) (w4 : List (Nat × Value)), ev_lk w4 0 = some (.ref 621) → ev_lk w4 1 = some (.int (Int32.ofInt x1)) → ev_lk w4 2 = some (.int (Int32.ofInt x2)) → ev_lk w4 3 = some (.int (Int32.ofInt x3)) → ev_w none (ev_Mof 336) d 6 w4 [] s9 (jl_336_6 Q   q x1 x2 x3 s9) ev_eI ev_bl := by
  intro q
  induction q with
  | zero =>
    intro x1 hx1 x2 hx2 x3 hx3 s9 w4 e5 e6 e7 e8
    exact ev_w_none
  | succ q ih => exact jbt_336_6 d hd Q     _ ih
/-- MendBenchModel.isTemplate()Z -/
def jm_336 (Q : Nat)  (S : ev_St) : Option ((Int) × ev_St) := jl_336_6 Q   Q 1 0 0 S
theorem jt_336 (d : Nat) (hd : 5 ≤ d) (Q : Nat)   (S : ev_St) (x : Int) (S' : ev_St) (hJ : jm_336 Q  S = some (x, S')) : ev_Ref d 336 [.ref 621] S (ev_eI x) S' (ev_bl x) := by
  obtain ⟨d, rfl⟩ : ∃ e, d = e + 1 := ⟨d - 1, by omega⟩
  refine ev_ref_of (P := ev_bl) (lv := [(0, .ref 621)]) (by decide +kernel) (by (try simp only [ev_sum, ev_nv_cat]); first | done | rfl) (by (try simp only [lv_args, ev_nv_cat]); first | done | rfl) ?_ x S' hJ
  unfold jm_336
  refine ev_r_iconst (pc := 0) (k := 1) (by decide +kernel) ?_
  refine ev_r_istore_n (pc := 1) (k := 1) (by decide +kernel) (by decide +kernel) rfl ?_
  refine ev_r_iconst (pc := 2) (k := 0) (by decide +kernel) ?_
  refine ev_r_istore_n (pc := 3) (k := 2) (by decide +kernel) (by decide +kernel) rfl ?_
  refine ev_r_iconst (pc := 4) (k := 0) (by decide +kernel) ?_
  refine ev_r_istore_n (pc := 5) (k := 3) (by decide +kernel) (by decide +kernel) rfl ?_
  exact jlt_336_6 d hd Q     Q 1 (by decide) 0 (by decide) 0 (by decide) S _ (by exact (ev_l1 (ev_l1 (ev_lk_st1 (by rfl) (by decide) rfl) (by decide) (by decide)) (by decide) (by decide))) (by exact (ev_l1 (ev_lk_st1 ev_lk_st1_self (by decide) rfl) (by decide) (by decide))) (by exact (ev_lk_st1 ev_lk_st1_self (by decide) rfl)) (by exact ev_lk_st1_self)
def jb_337_31 (Q : Nat)   (K31 : Int → ev_St → Option ((Int) × ev_St)) (x7 : Int) (s11 : ev_St) : Option ((Int) × ev_St) := ev_b (s11.1 621 1) fun x12 => if x12 ≤ x7 then (ev_b (s11.1 621 110) fun x14 => ev_b (s11.1 621 1) fun x15 => ev_if ((0 : Int) ≤ x14 ∧ x14 < (ev_aln 701 : Int)) (ev_b (ev_pI s11 701 (Int.toNat x14) x15) fun s16 => ev_b (ev_pI s16 621 1 0) fun s17 => ev_b (s17.1 621 110) fun x18 => ev_ck (x18 + 1) fun x19 => ev_b (ev_pI s17 621 110 x19) fun s20 => ev_b (s20.1 621 110) fun x21 => ev_ck (x21 - 1) fun x22 => some (x22, s20))) else (ev_b (s11.1 621 110) fun x23 => ev_ck (120 * x23) fun x24 => ev_ck (x24 + x7) fun x25 => ev_if ((0 : Int) ≤ x7 ∧ x7 < (ev_aln 622 : Int)) (ev_b (s11.1 622 (Int.toNat x7)) fun x26 => ev_if ((0 : Int) ≤ x25 ∧ x25 < (ev_aln 700 : Int)) (ev_b (ev_pI s11 700 (Int.toNat x25) x26) fun s27 => ev_ck (x7 + 1) fun x28 => K31 x28 s27)))
def jl_337_31 (Q : Nat)   : Nat → Int → ev_St → Option ((Int) × ev_St)
  | 0 => fun _ _ => none
  | q + 1 => jb_337_31 Q   (jl_337_31 Q   q)
theorem jbt_337_31 (d : Nat) (hd : 6 ≤ d + 1) (Q : Nat)     (K31 : Int → ev_St → Option ((Int) × ev_St)) (hK31 : ∀ (x7 : Int) (hx7 : ev_rng x7), ∀ (s11 : ev_St) (w8 : List (Nat × Value)), ev_lk w8 0 = some (.ref 621) → ev_lk w8 1 = some (.int (Int32.ofInt x7)) → ev_w none (ev_Mof 337) d 31 w8 [] s11 (K31 x7 s11) ev_eI ev_rng) : ∀ (x7 : Int) (hx7 : ev_rng x7), ∀ (s11 : ev_St) (w8 : List (Nat × Value)), ev_lk w8 0 = some (.ref 621) → ev_lk w8 1 = some (.int (Int32.ofInt x7)) → ev_w none (ev_Mof 337) d 31 w8 [] s11 (jb_337_31 Q   K31 x7 s11) ev_eI ev_rng := by
  intro x7 hx7 s11 w8 e9 e10
  unfold jb_337_31
  refine ev_r_iload_n (pc := 31) (k := 1) (v := Int32.ofInt x7) (by decide +kernel) (by exact e10) ?_
  refine ev_r_aload_n (pc := 32) (k := 0) (v := .ref 621) trivial (by decide +kernel) (by exact e9) ?_
  refine ev_r_getI (pc := 33) (y := 346) (ci := 13) (f := 1) (fin := 0) (by decide +kernel) (by decide +kernel) (by exact ev_ob_621) rfl ?_
  intro x12 hx12
  refine ev_r_icmp (pc := 36) (q := .ge) (o := 29) (t := 65) (c := x12 ≤ x7) (by decide +kernel) (ev_k_ge hx7 hx12) (by decide +kernel) ?_ ?_
  · intro c13
    refine ev_r_aload_n (pc := 65) (k := 0) (v := .ref 621) trivial (by decide +kernel) (by exact e9) ?_
    refine ev_r_getC (pc := 66) (y := 252) (ci := 13) (f := 112) (fin := 1) (k' := 701) (by decide +kernel) (by decide +kernel) (by exact ev_ob_621) rfl rfl ?_
    refine ev_r_aload_n (pc := 69) (k := 0) (v := .ref 621) trivial (by decide +kernel) (by exact e9) ?_
    refine ev_r_getI (pc := 70) (y := 741) (ci := 13) (f := 110) (fin := 0) (by decide +kernel) (by decide +kernel) (by exact ev_ob_621) rfl ?_
    intro x14 hx14
    refine ev_r_aload_n (pc := 73) (k := 0) (v := .ref 621) trivial (by decide +kernel) (by exact e9) ?_
    refine ev_r_getI (pc := 74) (y := 346) (ci := 13) (f := 1) (fin := 0) (by decide +kernel) (by decide +kernel) (by exact ev_ob_621) rfl ?_
    intro x15 hx15
    refine ev_r_iast (pc := 77) hx15 hx14 (by decide +kernel) (by exact ev_ab_701) ?_
    intro s16
    refine ev_r_aload_n (pc := 78) (k := 0) (v := .ref 621) trivial (by decide +kernel) (by exact e9) ?_
    refine ev_r_iconst (pc := 79) (k := 0) (by decide +kernel) ?_
    refine ev_r_putI (pc := 80) (y := 346) (ci := 13) (f := 1) (by decide) (by decide +kernel) (by decide +kernel) (by exact ev_ob_621) rfl rfl ?_
    intro s17
    refine ev_r_aload_n (pc := 83) (k := 0) (v := .ref 621) trivial (by decide +kernel) (by exact e9) ?_
    refine ev_r_dup (pc := 84) rfl (by decide +kernel) ?_
    refine ev_r_getI (pc := 85) (y := 741) (ci := 13) (f := 110) (fin := 0) (by decide +kernel) (by decide +kernel) (by exact ev_ob_621) rfl ?_
    intro x18 hx18
    refine ev_r_iconst (pc := 88) (k := 1) (by decide +kernel) ?_
    refine ev_r_iadd (pc := 89) (by decide +kernel) ?_
    intro x19 hx19
    refine ev_r_putI (pc := 90) (y := 741) (ci := 13) (f := 110) hx19 (by decide +kernel) (by decide +kernel) (by exact ev_ob_621) rfl rfl ?_
    intro s20
    refine ev_r_aload_n (pc := 93) (k := 0) (v := .ref 621) trivial (by decide +kernel) (by exact e9) ?_
    refine ev_r_getI (pc := 94) (y := 741) (ci := 13) (f := 110) (fin := 0) (by decide +kernel) (by decide +kernel) (by exact ev_ob_621) rfl ?_
    intro x21 hx21
    refine ev_r_iconst (pc := 97) (k := 1) (by decide +kernel) ?_
    refine ev_r_isub (pc := 98) (by decide +kernel) ?_
    intro x22 hx22
    exact ev_r_ireturn (pc := 99) (x := x22) (v := Int32.ofInt x22) (ty := .int) hx22 (by decide +kernel) (by decide +kernel) rfl rfl
  · intro c13
    refine ev_r_aload_n (pc := 39) (k := 0) (v := .ref 621) trivial (by decide +kernel) (by exact e9) ?_
    refine ev_r_getC (pc := 40) (y := 249) (ci := 13) (f := 111) (fin := 1) (k' := 700) (by decide +kernel) (by decide +kernel) (by exact ev_ob_621) rfl rfl ?_
    refine ev_r_bipush (pc := 43) (k := 120) (by decide +kernel) (by decide +kernel) ?_
    refine ev_r_aload_n (pc := 45) (k := 0) (v := .ref 621) trivial (by decide +kernel) (by exact e9) ?_
    refine ev_r_getI (pc := 46) (y := 741) (ci := 13) (f := 110) (fin := 0) (by decide +kernel) (by decide +kernel) (by exact ev_ob_621) rfl ?_
    intro x23 hx23
    refine ev_r_imul (pc := 49) (by decide +kernel) ?_
    intro x24 hx24
    refine ev_r_iload_n (pc := 50) (k := 1) (v := Int32.ofInt x7) (by decide +kernel) (by exact e10) ?_
    refine ev_r_iadd (pc := 51) (by decide +kernel) ?_
    intro x25 hx25
    refine ev_r_aload_n (pc := 52) (k := 0) (v := .ref 621) trivial (by decide +kernel) (by exact e9) ?_
    refine ev_r_getC (pc := 53) (y := 7) (ci := 13) (f := 2) (fin := 1) (k' := 622) (by decide +kernel) (by decide +kernel) (by exact ev_ob_621) rfl rfl ?_
    refine ev_r_iload_n (pc := 56) (k := 1) (v := Int32.ofInt x7) (by decide +kernel) (by exact e10) ?_
    refine ev_r_iald (pc := 57) hx7 (by decide +kernel) (by exact ev_ab_622) ?_
    intro x26 hx26
    refine ev_r_iast (pc := 58) hx26 hx25 (by decide +kernel) (by exact ev_ab_700) ?_
    intro s27
    refine ev_r_iinc (pc := 59) (k := 1) (c := 1) (x := x7) (by decide +kernel) (by decide +kernel) (by exact e10) (fun _ => rfl) ?_
    intro x28 hx28
    refine ev_r_goto (pc := 62) (o := (-31)) (t := 31) (by decide +kernel) (by decide +kernel) ?_
    exact hK31 x28 hx28 s27 _ (by exact (ev_lk_st1 e9 (by decide) rfl)) (by exact ev_lk_st1_self)
theorem jlt_337_31 (d : Nat) (hd : 6 ≤ d + 1) (Q : Nat)     : ∀ q : Nat, ∀ (x7 : Int) (hx7 : ev_rng x7), ∀ (s11 : ev_St) (w8 : List (Nat × Value)), ev_lk w8 0 = some (.ref 621) → ev_lk w8 1 = some (.int (Int32.ofInt x7)) → ev_w none (ev_Mof 337) d 31 w8 [] s11 (jl_337_31 Q   q x7 s11) ev_eI ev_rng := by
  intro q
  induction q with
  | zero =>
    intro x7 hx7 s11 w8 e9 e10
    exact ev_w_none
  | succ q ih => exact jbt_337_31 d hd Q     _ ih
/-- MendBenchModel.template()I -/
def jm_337 (Q : Nat)  (S : ev_St) : Option ((Int) × ev_St) := ev_b (ev_pI S 621 0 0) fun s1 => ev_b (s1.1 621 110) fun x2 => if x2 ≠ 8 then (ev_bd (jm_336 Q  s1) fun x5 s4 => if x5 ≠ 0 then (jl_337_31 Q   Q 0 s4) else (some ((-1), s4))) else (ev_bd (jm_221 Q 1 s1) fun x30 s29 => some (x30, s29))
theorem jt_337 (d : Nat) (hd : 6 ≤ d) (Q : Nat)   (S : ev_St) (x : Int) (S' : ev_St) (hJ : jm_337 Q  S = some (x, S')) : ev_Ref d 337 [.ref 621] S (ev_eI x) S' (ev_rng x) := by
  obtain ⟨d, rfl⟩ : ∃ e, d = e + 1 := ⟨d - 1, by omega⟩
  refine ev_ref_of (P := ev_rng) (lv := [(0, .ref 621)]) (by decide +kernel) (by (try simp only [ev_sum, ev_nv_cat]); first | done | rfl) (by (try simp only [lv_args, ev_nv_cat]); first | done | rfl) ?_ x S' hJ
  unfold jm_337
  refine ev_r_aload_n (pc := 0) (k := 0) (v := .ref 621) trivial (by decide +kernel) (by rfl) ?_
  refine ev_r_iconst (pc := 1) (k := 0) (by decide +kernel) ?_
  refine ev_r_putI (pc := 2) (y := 321) (ci := 13) (f := 0) (by decide) (by decide +kernel) (by decide +kernel) (by exact ev_ob_621) rfl rfl ?_
  intro s1
  refine ev_r_aload_n (pc := 5) (k := 0) (v := .ref 621) trivial (by decide +kernel) (by rfl) ?_
  refine ev_r_getI (pc := 6) (y := 741) (ci := 13) (f := 110) (fin := 0) (by decide +kernel) (by decide +kernel) (by exact ev_ob_621) rfl ?_
  intro x2 hx2
  refine ev_r_bipush (pc := 9) (k := 8) (by decide +kernel) (by decide +kernel) ?_
  refine ev_r_icmp (pc := 11) (q := .ne) (o := 9) (t := 20) (c := x2 ≠ 8) (by decide +kernel) (ev_k_ne hx2 (by decide)) (by decide +kernel) ?_ ?_
  · intro c3
    refine ev_r_aload_n (pc := 20) (k := 0) (v := .ref 621) trivial (by decide +kernel) (by rfl) ?_
    refine ev_r_virt (pc := 21) (y := 744) (mi := 336) (na := 0) (k := 621) (as := []) (rest := []) (encc := ev_oI) (Q := ev_bl) (fun x S1 h => jt_336 d (by omega) Q   s1 x S1 h) (by exact ev_ob_621) (by decide +kernel) (by decide +kernel) (by decide +kernel) (by decide +kernel) rfl (by (try simp only [ev_sum, ev_nv_cat]); first | done | rfl) ?_
    intro x5 s4 hx5
    replace hx5 := ev_bl_rng hx5
    show ev_w _ _ _ _ _ [.int (Int32.ofInt x5)] _ _ _ _
    refine ev_r_if (pc := 24) (q := .ne) (o := 5) (t := 29) (c := x5 ≠ 0) (by decide +kernel) (ev_k_ne hx5 ev_rng0) (by decide +kernel) ?_ ?_
    · intro c6
      refine ev_r_iconst (pc := 29) (k := 0) (by decide +kernel) ?_
      refine ev_r_istore_n (pc := 30) (k := 1) (by decide +kernel) (by decide +kernel) rfl ?_
      exact jlt_337_31 d hd Q     Q 0 (by decide) s4 _ (by exact (ev_lk_st1 (by rfl) (by decide) rfl)) (by exact ev_lk_st1_self)
    · intro c6
      refine ev_r_iconst (pc := 27) (k := -1) (by decide +kernel) ?_
      exact ev_r_ireturn (pc := 28) (x := (-1)) (v := Int32.ofInt ((-1))) (ty := .int) (by decide) (by decide +kernel) (by decide +kernel) rfl rfl
  · intro c3
    refine ev_r_aload_n (pc := 14) (k := 0) (v := .ref 621) trivial (by decide +kernel) (by rfl) ?_
    refine ev_r_iconst (pc := 15) (k := 1) (by decide +kernel) ?_
    refine ev_r_virt (pc := 16) (y := 342) (mi := 221) (na := 1) (k := 621) (as := [.int (Int32.ofInt 1)]) (rest := []) (encc := ev_oI) (Q := ev_rng) (fun x S1 h => jt_221 d (by omega) Q 1 (by decide) s1 x S1 h) (by exact ev_ob_621) (by decide +kernel) (by decide +kernel) (by decide +kernel) (by decide +kernel) rfl (by (try simp only [ev_sum, ev_nv_cat]); first | done | rfl) ?_
    intro x30 s29 hx30
    show ev_w _ _ _ _ _ [.int (Int32.ofInt x30)] _ _ _ _
    exact ev_r_ireturn (pc := 19) (x := x30) (v := Int32.ofInt x30) (ty := .int) hx30 (by decide +kernel) (by decide +kernel) rfl rfl
/-- MendBenchModel.puts(II)V -/
def jm_338 (Q : Nat) (a0 : Int) (a1 : Int) (S : ev_St) : Option ((Unit) × ev_St) := ev_b (S.1 621 113) fun x1 => ev_jn (fun  (s4 : ev_St) => ev_b (s4.1 621 113) fun x5 => ev_ck (x5 + 1) fun x6 => ev_b (ev_pI s4 621 113 x6) fun s7 => some ((), s7)) fun K62 => if 200 ≤ x1 then (K62  S) else (ev_b (S.1 621 113) fun x9 => ev_jn (fun (x12 : Int) (x11 : Int) (r10 : Nat) (s15 : ev_St) => ev_if ((0 : Int) ≤ x11 ∧ x11 < (ev_aln r10 : Int)) (ev_b (ev_pI s15 r10 (Int.toNat x11) x12) fun s16 => K62  s16)) fun K61 => ev_jn (fun (x18 : Int) (r17 : Nat) (s23 : ev_St) => ev_jn (fun (x25 : Int) (r24 : Nat) (s29 : ev_St) => K61 a0 x25 r24 s29) fun K60 => if a1 ≠ 2 then (K60 x18 r17 s23) else (ev_bd (jm_222 Q a0 65 90 s23) fun x32 s31 => if x32 = 0 then (K60 x18 r17 s31) else (ev_ck (a0 + 32) fun x34 => K61 x34 x18 r17 s31))) fun K37 => if a1 ≠ 1 then (K37 x9 702 S) else (ev_bd (jm_224 Q a0 S) fun x37 s36 => if x37 = 0 then (K37 x9 702 s36) else (ev_ck (a0 - 32) fun x39 => K61 x39 x9 702 s36)))
theorem jt_338 (d : Nat) (hd : 3 ≤ d) (Q : Nat) (a0 : Int) (a1 : Int) (ha0 : ev_rng a0) (ha1 : ev_rng a1) (S : ev_St) (x : Unit) (S' : ev_St) (hJ : jm_338 Q a0 a1 S = some (x, S')) : ev_Ref d 338 [.ref 621, .int (Int32.ofInt a0), .int (Int32.ofInt a1)] S (ev_eU x) S' (ev_PU x) := by
  obtain ⟨d, rfl⟩ : ∃ e, d = e + 1 := ⟨d - 1, by omega⟩
  refine ev_ref_of (P := ev_PU) (lv := [(0, .ref 621), (1, .int (Int32.ofInt a0)), (2, .int (Int32.ofInt a1))]) (by decide +kernel) (by (try simp only [ev_sum, ev_nv_cat]); first | done | rfl) (by (try simp only [lv_args, ev_nv_cat]); first | done | rfl) ?_ x S' hJ
  unfold jm_338
  refine ev_r_aload_n (pc := 0) (k := 0) (v := .ref 621) trivial (by decide +kernel) (by rfl) ?_
  refine ev_r_getI (pc := 1) (y := 748) (ci := 13) (f := 113) (fin := 0) (by decide +kernel) (by decide +kernel) (by exact ev_ob_621) rfl ?_
  intro x1 hx1
  refine ev_r_sipush (pc := 4) (k := 200) (by decide +kernel) (by decide +kernel) ?_
  refine ev_r_jn (Q := fun K => ∀ (s4 : ev_St) (w2 : List (Nat × Value)), ev_lk w2 0 = some (.ref 621) → ev_w none (ev_Mof 338) d 62 w2 [] s4 (K  s4) ev_eU ev_PU) ?_ ?_
  · intro  s4 w2 e3
    refine ev_r_aload_n (pc := 62) (k := 0) (v := .ref 621) trivial (by decide +kernel) (by exact e3) ?_
    refine ev_r_dup (pc := 63) rfl (by decide +kernel) ?_
    refine ev_r_getI (pc := 64) (y := 748) (ci := 13) (f := 113) (fin := 0) (by decide +kernel) (by decide +kernel) (by exact ev_ob_621) rfl ?_
    intro x5 hx5
    refine ev_r_iconst (pc := 67) (k := 1) (by decide +kernel) ?_
    refine ev_r_iadd (pc := 68) (by decide +kernel) ?_
    intro x6 hx6
    refine ev_r_putI (pc := 69) (y := 748) (ci := 13) (f := 113) hx6 (by decide +kernel) (by decide +kernel) (by exact ev_ob_621) rfl rfl ?_
    intro s7
    exact ev_r_return (pc := 72) (x := ()) trivial (by decide +kernel) (by decide +kernel) rfl
  · intro K62 hK62
    refine ev_r_icmp (pc := 7) (q := .ge) (o := 55) (t := 62) (c := 200 ≤ x1) (by decide +kernel) (ev_k_ge hx1 (by decide)) (by decide +kernel) ?_ ?_
    · intro c8
      exact hK62  S _ (by rfl)
    · intro c8
      refine ev_r_aload_n (pc := 10) (k := 0) (v := .ref 621) trivial (by decide +kernel) (by rfl) ?_
      refine ev_r_getC (pc := 11) (y := 255) (ci := 13) (f := 114) (fin := 1) (k' := 702) (by decide +kernel) (by decide +kernel) (by exact ev_ob_621) rfl rfl ?_
      refine ev_r_aload_n (pc := 14) (k := 0) (v := .ref 621) trivial (by decide +kernel) (by rfl) ?_
      refine ev_r_getI (pc := 15) (y := 748) (ci := 13) (f := 113) (fin := 0) (by decide +kernel) (by decide +kernel) (by exact ev_ob_621) rfl ?_
      intro x9 hx9
      refine ev_r_iload_n (pc := 18) (k := 2) (v := Int32.ofInt a1) (by decide +kernel) (by rfl) ?_
      refine ev_r_iconst (pc := 19) (k := 1) (by decide +kernel) ?_
      refine ev_r_jn (Q := fun K => ∀ (x12 : Int) (hx12 : ev_rng x12), ∀ (x11 : Int) (hx11 : ev_rng x11), ∀ (r10 : Nat) (hr10 : ev_isAb r10 1 .int = true), ∀ (s15 : ev_St) (w13 : List (Nat × Value)), ev_lk w13 0 = some (.ref 621) → ev_w none (ev_Mof 338) d 61 w13 [.int (Int32.ofInt x12), .int (Int32.ofInt x11), .ref r10] s15 (K x12 x11 r10 s15) ev_eU ev_PU) ?_ ?_
      · intro x12 hx12 x11 hx11 r10 hr10 s15 w13 e14
        refine ev_r_iast (pc := 61) hx12 hx11 (by decide +kernel) (by exact hr10) ?_
        intro s16
        exact hK62  s16 _ (by exact e14)
      · intro K61 hK61
        refine ev_r_jn (Q := fun K => ∀ (x18 : Int) (hx18 : ev_rng x18), ∀ (r17 : Nat) (hr17 : ev_isAb r17 1 .int = true), ∀ (s23 : ev_St) (w19 : List (Nat × Value)), ev_lk w19 0 = some (.ref 621) → ev_lk w19 1 = some (.int (Int32.ofInt a0)) → ev_lk w19 2 = some (.int (Int32.ofInt a1)) → ev_w none (ev_Mof 338) d 37 w19 [.int (Int32.ofInt x18), .ref r17] s23 (K x18 r17 s23) ev_eU ev_PU) ?_ ?_
        · intro x18 hx18 r17 hr17 s23 w19 e20 e21 e22
          refine ev_r_iload_n (pc := 37) (k := 2) (v := Int32.ofInt a1) (by decide +kernel) (by exact e22) ?_
          refine ev_r_iconst (pc := 38) (k := 2) (by decide +kernel) ?_
          refine ev_r_jn (Q := fun K => ∀ (x25 : Int) (hx25 : ev_rng x25), ∀ (r24 : Nat) (hr24 : ev_isAb r24 1 .int = true), ∀ (s29 : ev_St) (w26 : List (Nat × Value)), ev_lk w26 0 = some (.ref 621) → ev_lk w26 1 = some (.int (Int32.ofInt a0)) → ev_w none (ev_Mof 338) d 60 w26 [.int (Int32.ofInt x25), .ref r24] s29 (K x25 r24 s29) ev_eU ev_PU) ?_ ?_
          · intro x25 hx25 r24 hr24 s29 w26 e27 e28
            refine ev_r_iload_n (pc := 60) (k := 1) (v := Int32.ofInt a0) (by decide +kernel) (by exact e28) ?_
            exact hK61 a0 ha0 x25 hx25 r24 hr24 s29 _ (by exact e27)
          · intro K60 hK60
            refine ev_r_icmp (pc := 39) (q := .ne) (o := 21) (t := 60) (c := a1 ≠ 2) (by decide +kernel) (ev_k_ne ha1 (by decide)) (by decide +kernel) ?_ ?_
            · intro c30
              exact hK60 x18 hx18 r17 hr17 s23 _ (by exact e20) (by exact e21)
            · intro c30
              refine ev_r_iload_n (pc := 42) (k := 1) (v := Int32.ofInt a0) (by decide +kernel) (by exact e21) ?_
              refine ev_r_bipush (pc := 43) (k := 65) (by decide +kernel) (by decide +kernel) ?_
              refine ev_r_bipush (pc := 45) (k := 90) (by decide +kernel) (by decide +kernel) ?_
              refine ev_r_stat (pc := 47) (y := 325) (kind := 2) (mi := 222) (na := 3) (as := [.int (Int32.ofInt a0), .int (Int32.ofInt 65), .int (Int32.ofInt 90)]) (rest := [.int (Int32.ofInt x18), .ref r17]) (encc := ev_oI) (Q := ev_bl) (fun x S1 h => jt_222 d (by omega) Q a0 65 90 ha0 (by decide) (by decide) s23 x S1 h) (Or.inl rfl) (by decide +kernel) (by decide +kernel) (by decide +kernel) (by decide +kernel) rfl (by (try simp only [ev_sum, ev_nv_cat]); first | done | rfl) ?_
              intro x32 s31 hx32
              replace hx32 := ev_bl_rng hx32
              show ev_w _ _ _ _ _ [.int (Int32.ofInt x32), .int (Int32.ofInt x18), .ref r17] _ _ _ _
              refine ev_r_if (pc := 50) (q := .eq) (o := 10) (t := 60) (c := x32 = 0) (by decide +kernel) (ev_k_eq hx32 ev_rng0) (by decide +kernel) ?_ ?_
              · intro c33
                exact hK60 x18 hx18 r17 hr17 s31 _ (by exact e20) (by exact e21)
              · intro c33
                refine ev_r_iload_n (pc := 53) (k := 1) (v := Int32.ofInt a0) (by decide +kernel) (by exact e21) ?_
                refine ev_r_bipush (pc := 54) (k := 32) (by decide +kernel) (by decide +kernel) ?_
                refine ev_r_iadd (pc := 56) (by decide +kernel) ?_
                intro x34 hx34
                refine ev_r_goto (pc := 57) (o := 4) (t := 61) (by decide +kernel) (by decide +kernel) ?_
                exact hK61 x34 hx34 x18 hx18 r17 hr17 s31 _ (by exact e20)
        · intro K37 hK37
          refine ev_r_icmp (pc := 20) (q := .ne) (o := 17) (t := 37) (c := a1 ≠ 1) (by decide +kernel) (ev_k_ne ha1 (by decide)) (by decide +kernel) ?_ ?_
          · intro c35
            exact hK37 x9 hx9 702 ev_ab_702 S _ (by rfl) (by rfl) (by rfl)
          · intro c35
            refine ev_r_iload_n (pc := 23) (k := 1) (v := Int32.ofInt a0) (by decide +kernel) (by rfl) ?_
            refine ev_r_stat (pc := 24) (y := 329) (kind := 2) (mi := 224) (na := 1) (as := [.int (Int32.ofInt a0)]) (rest := [.int (Int32.ofInt x9), .ref 702]) (encc := ev_oI) (Q := ev_bl) (fun x S1 h => jt_224 d (by omega) Q a0 ha0 S x S1 h) (Or.inl rfl) (by decide +kernel) (by decide +kernel) (by decide +kernel) (by decide +kernel) rfl (by (try simp only [ev_sum, ev_nv_cat]); first | done | rfl) ?_
            intro x37 s36 hx37
            replace hx37 := ev_bl_rng hx37
            show ev_w _ _ _ _ _ [.int (Int32.ofInt x37), .int (Int32.ofInt x9), .ref 702] _ _ _ _
            refine ev_r_if (pc := 27) (q := .eq) (o := 10) (t := 37) (c := x37 = 0) (by decide +kernel) (ev_k_eq hx37 ev_rng0) (by decide +kernel) ?_ ?_
            · intro c38
              exact hK37 x9 hx9 702 ev_ab_702 s36 _ (by rfl) (by rfl) (by rfl)
            · intro c38
              refine ev_r_iload_n (pc := 30) (k := 1) (v := Int32.ofInt a0) (by decide +kernel) (by rfl) ?_
              refine ev_r_bipush (pc := 31) (k := 32) (by decide +kernel) (by decide +kernel) ?_
              refine ev_r_isub (pc := 33) (by decide +kernel) ?_
              intro x39 hx39
              refine ev_r_goto (pc := 34) (o := 27) (t := 61) (by decide +kernel) (by decide +kernel) ?_
              exact hK61 x39 hx39 x9 hx9 702 ev_ab_702 s36 _ (by rfl)
/-- MendBenchModel.hasGroup(II)Z -/
def jm_339 (Q : Nat) (a0 : Int) (a1 : Int) (S : ev_St) : Option ((Int) × ev_St) := ev_if ((0 : Int) ≤ a0 ∧ a0 < (ev_aln 636 : Int)) (ev_b (S.1 636 (Int.toNat a0)) fun x1 => if x1 < a1 then (some (0, S)) else (ev_if ((0 : Int) ≤ a1 ∧ a1 < (ev_aln 679 : Int)) (ev_b (S.1 679 (Int.toNat a1)) fun x3 => if x3 = (-1) then (some (0, S)) else (some (1, S)))))
theorem jt_339 (d : Nat) (hd : 1 ≤ d) (Q : Nat) (a0 : Int) (a1 : Int) (ha0 : ev_rng a0) (ha1 : ev_rng a1) (S : ev_St) (x : Int) (S' : ev_St) (hJ : jm_339 Q a0 a1 S = some (x, S')) : ev_Ref d 339 [.ref 621, .int (Int32.ofInt a0), .int (Int32.ofInt a1)] S (ev_eI x) S' (ev_bl x) := by
  obtain ⟨d, rfl⟩ : ∃ e, d = e + 1 := ⟨d - 1, by omega⟩
  refine ev_ref_of (P := ev_bl) (lv := [(0, .ref 621), (1, .int (Int32.ofInt a0)), (2, .int (Int32.ofInt a1))]) (by decide +kernel) (by (try simp only [ev_sum, ev_nv_cat]); first | done | rfl) (by (try simp only [lv_args, ev_nv_cat]); first | done | rfl) ?_ x S' hJ
  unfold jm_339
  refine ev_r_iload_n (pc := 0) (k := 2) (v := Int32.ofInt a1) (by decide +kernel) (by rfl) ?_
  refine ev_r_aload_n (pc := 1) (k := 0) (v := .ref 621) trivial (by decide +kernel) (by rfl) ?_
  refine ev_r_getC (pc := 2) (y := 53) (ci := 13) (f := 17) (fin := 1) (k' := 636) (by decide +kernel) (by decide +kernel) (by exact ev_ob_621) rfl rfl ?_
  refine ev_r_iload_n (pc := 5) (k := 1) (v := Int32.ofInt a0) (by decide +kernel) (by rfl) ?_
  refine ev_r_iald (pc := 6) ha0 (by decide +kernel) (by exact ev_ab_636) ?_
  intro x1 hx1
  refine ev_r_icmp (pc := 7) (q := .gt) (o := 17) (t := 24) (c := x1 < a1) (by decide +kernel) (ev_k_gt ha1 hx1) (by decide +kernel) ?_ ?_
  · intro c2
    refine ev_r_iconst (pc := 24) (k := 0) (by decide +kernel) ?_
    exact ev_r_ireturn (pc := 25) (x := 0) (v := Int32.ofInt 0) (ty := .boolean) (by decide : ev_bl 0) (by decide +kernel) (by decide +kernel) (ev_ret_bl (by decide : ev_bl 0)) rfl
  · intro c2
    refine ev_r_aload_n (pc := 10) (k := 0) (v := .ref 621) trivial (by decide +kernel) (by rfl) ?_
    refine ev_r_getC (pc := 11) (y := 184) (ci := 13) (f := 86) (fin := 1) (k' := 679) (by decide +kernel) (by decide +kernel) (by exact ev_ob_621) rfl rfl ?_
    refine ev_r_iload_n (pc := 14) (k := 2) (v := Int32.ofInt a1) (by decide +kernel) (by rfl) ?_
    refine ev_r_iald (pc := 15) ha1 (by decide +kernel) (by exact ev_ab_679) ?_
    intro x3 hx3
    refine ev_r_iconst (pc := 16) (k := -1) (by decide +kernel) ?_
    refine ev_r_icmp (pc := 17) (q := .eq) (o := 7) (t := 24) (c := x3 = (-1)) (by decide +kernel) (ev_k_eq hx3 (by decide)) (by decide +kernel) ?_ ?_
    · intro c4
      refine ev_r_iconst (pc := 24) (k := 0) (by decide +kernel) ?_
      exact ev_r_ireturn (pc := 25) (x := 0) (v := Int32.ofInt 0) (ty := .boolean) (by decide : ev_bl 0) (by decide +kernel) (by decide +kernel) (ev_ret_bl (by decide : ev_bl 0)) rfl
    · intro c4
      refine ev_r_iconst (pc := 20) (k := 1) (by decide +kernel) ?_
      refine ev_r_goto (pc := 21) (o := 4) (t := 25) (by decide +kernel) (by decide +kernel) ?_
      exact ev_r_ireturn (pc := 25) (x := 1) (v := Int32.ofInt 1) (ty := .boolean) (by decide : ev_bl 1) (by decide +kernel) (by decide +kernel) (ev_ret_bl (by decide : ev_bl 1)) rfl
def jb_340_193 (Q : Nat) (a0 : Int) (a2 : Int) (x4 : Int) (x5 : Int) (x6 : Int) (x7 : Int) (x9 : Int) (x225 : Int) (x242 : Int) (x258 : Int) (K498 : Int → Int → Int → Int → Int → ev_St → Option ((Unit) × ev_St)) (K193 : Int → ev_St → Option ((Unit) × ev_St)) (x273 : Int) (s287 : ev_St) : Option ((Unit) × ev_St) := ev_jn (fun  (s298 : ev_St) => K498 x4 x5 x6 x7 x258 s298) fun K244 => if x242 = 0 then (K244  s287) else (if x6 = 0 then (K244  s287) else (ev_bd (jm_339 Q a0 x225 s287) fun x302 s301 => if x302 = 0 then (K244  s301) else (ev_if ((0 : Int) ≤ x225 ∧ x225 < (ev_aln 680 : Int)) (ev_b (s301.1 680 (Int.toNat x225)) fun x304 => if x304 ≤ x273 then (K244  s301) else (ev_if ((0 : Int) ≤ x273 ∧ x273 < (ev_aln 678 : Int)) (ev_b (s301.1 678 (Int.toNat x273)) fun x306 => ev_bd (jm_338 Q x306 x4 s301) fun _ s307 => ev_ck (x273 + 1) fun x308 => K193 x308 s307))))))
def jl_340_193 (Q : Nat) (a0 : Int) (a2 : Int) (x4 : Int) (x5 : Int) (x6 : Int) (x7 : Int) (x9 : Int) (x225 : Int) (x242 : Int) (x258 : Int) (K498 : Int → Int → Int → Int → Int → ev_St → Option ((Unit) × ev_St)) : Nat → Int → ev_St → Option ((Unit) × ev_St)
  | 0 => fun _ _ => none
  | q + 1 => jb_340_193 Q a0 a2 x4 x5 x6 x7 x9 x225 x242 x258 K498 (jl_340_193 Q a0 a2 x4 x5 x6 x7 x9 x225 x242 x258 K498 q)
theorem jbt_340_193 (d : Nat) (hd : 5 ≤ d + 1) (Q : Nat) (a0 : Int) (a2 : Int) (x4 : Int) (x5 : Int) (x6 : Int) (x7 : Int) (x9 : Int) (x225 : Int) (x242 : Int) (x258 : Int) (ha0 : ev_rng a0) (ha2 : ev_rng a2) (hx4 : ev_rng x4) (hx5 : ev_rng x5) (hx6 : ev_rng x6) (hx7 : ev_rng x7) (hx9 : ev_rng x9) (hx225 : ev_rng x225) (hx242 : ev_rng x242) (hx258 : ev_rng x258) (K498 : Int → Int → Int → Int → Int → ev_St → Option ((Unit) × ev_St)) (hK498 : ∀ (x39 : Int) (hx39 : ev_rng x39), ∀ (x40 : Int) (hx40 : ev_rng x40), ∀ (x41 : Int) (hx41 : ev_rng x41), ∀ (x42 : Int) (hx42 : ev_rng x42), ∀ (x43 : Int) (hx43 : ev_rng x43), ∀ (s54 : ev_St) (w44 : List (Nat × Value)), ev_lk w44 0 = some (.ref 621) → ev_lk w44 1 = some (.int (Int32.ofInt a0)) → ev_lk w44 3 = some (.int (Int32.ofInt a2)) → ev_lk w44 4 = some (.int (Int32.ofInt x39)) → ev_lk w44 5 = some (.int (Int32.ofInt x40)) → ev_lk w44 6 = some (.int (Int32.ofInt x41)) → ev_lk w44 7 = some (.int (Int32.ofInt x42)) → ev_lk w44 8 = some (.int (Int32.ofInt x43)) → ev_lk w44 9 = some (.int (Int32.ofInt x9)) → ev_w none (ev_Mof 340) d 498 w44 [] s54 (K498 x39 x40 x41 x42 x43 s54) ev_eU ev_PU) (K193 : Int → ev_St → Option ((Unit) × ev_St)) (hK193 : ∀ (x273 : Int) (hx273 : ev_rng x273), ∀ (s287 : ev_St) (w274 : List (Nat × Value)), ev_lk w274 0 = some (.ref 621) → ev_lk w274 1 = some (.int (Int32.ofInt a0)) → ev_lk w274 3 = some (.int (Int32.ofInt a2)) → ev_lk w274 4 = some (.int (Int32.ofInt x4)) → ev_lk w274 5 = some (.int (Int32.ofInt x5)) → ev_lk w274 6 = some (.int (Int32.ofInt x6)) → ev_lk w274 7 = some (.int (Int32.ofInt x7)) → ev_lk w274 8 = some (.int (Int32.ofInt x258)) → ev_lk w274 9 = some (.int (Int32.ofInt x9)) → ev_lk w274 12 = some (.int (Int32.ofInt x225)) → ev_lk w274 13 = some (.int (Int32.ofInt x242)) → ev_lk w274 14 = some (.int (Int32.ofInt x273)) → ev_w none (ev_Mof 340) d 193 w274 [] s287 (K193 x273 s287) ev_eU ev_PU) : ∀ (x273 : Int) (hx273 : ev_rng x273), ∀ (s287 : ev_St) (w274 : List (Nat × Value)), ev_lk w274 0 = some (.ref 621) → ev_lk w274 1 = some (.int (Int32.ofInt a0)) → ev_lk w274 3 = some (.int (Int32.ofInt a2)) → ev_lk w274 4 = some (.int (Int32.ofInt x4)) → ev_lk w274 5 = some (.int (Int32.ofInt x5)) → ev_lk w274 6 = some (.int (Int32.ofInt x6)) → ev_lk w274 7 = some (.int (Int32.ofInt x7)) → ev_lk w274 8 = some (.int (Int32.ofInt x258)) → ev_lk w274 9 = some (.int (Int32.ofInt x9)) → ev_lk w274 12 = some (.int (Int32.ofInt x225)) → ev_lk w274 13 = some (.int (Int32.ofInt x242)) → ev_lk w274 14 = some (.int (Int32.ofInt x273)) → ev_w none (ev_Mof 340) d 193 w274 [] s287 (jb_340_193 Q a0 a2 x4 x5 x6 x7 x9 x225 x242 x258 K498 K193 x273 s287) ev_eU ev_PU := by
  intro x273 hx273 s287 w274 e275 e276 e277 e278 e279 e280 e281 e282 e283 e284 e285 e286
  unfold jb_340_193
  refine ev_r_iload (pc := 193) (k := 13) (v := Int32.ofInt x242) (by decide +kernel) (by exact e285) ?_
  refine ev_r_jn (Q := fun K => ∀ (s298 : ev_St) (w288 : List (Nat × Value)), ev_lk w288 0 = some (.ref 621) → ev_lk w288 1 = some (.int (Int32.ofInt a0)) → ev_lk w288 3 = some (.int (Int32.ofInt a2)) → ev_lk w288 4 = some (.int (Int32.ofInt x4)) → ev_lk w288 5 = some (.int (Int32.ofInt x5)) → ev_lk w288 6 = some (.int (Int32.ofInt x6)) → ev_lk w288 7 = some (.int (Int32.ofInt x7)) → ev_lk w288 8 = some (.int (Int32.ofInt x258)) → ev_lk w288 9 = some (.int (Int32.ofInt x9)) → ev_w none (ev_Mof 340) d 244 w288 [] s298 (K  s298) ev_eU ev_PU) ?_ ?_
  · intro  s298 w288 e289 e290 e291 e292 e293 e294 e295 e296 e297
    refine ev_r_goto (pc := 244) (o := 254) (t := 498) (by decide +kernel) (by decide +kernel) ?_
    exact hK498 x4 hx4 x5 hx5 x6 hx6 x7 hx7 x258 hx258 s298 _ (by exact e289) (by exact e290) (by exact e291) (by exact e292) (by exact e293) (by exact e294) (by exact e295) (by exact e296) (by exact e297)
  · intro K244 hK244
    refine ev_r_if (pc := 195) (q := .eq) (o := 49) (t := 244) (c := x242 = 0) (by decide +kernel) (ev_k_eq hx242 ev_rng0) (by decide +kernel) ?_ ?_
    · intro c299
      exact hK244  s287 _ (by exact e275) (by exact e276) (by exact e277) (by exact e278) (by exact e279) (by exact e280) (by exact e281) (by exact e282) (by exact e283)
    · intro c299
      refine ev_r_iload (pc := 198) (k := 6) (v := Int32.ofInt x6) (by decide +kernel) (by exact e280) ?_
      refine ev_r_if (pc := 200) (q := .eq) (o := 44) (t := 244) (c := x6 = 0) (by decide +kernel) (ev_k_eq hx6 ev_rng0) (by decide +kernel) ?_ ?_
      · intro c300
        exact hK244  s287 _ (by exact e275) (by exact e276) (by exact e277) (by exact e278) (by exact e279) (by exact e280) (by exact e281) (by exact e282) (by exact e283)
      · intro c300
        refine ev_r_aload_n (pc := 203) (k := 0) (v := .ref 621) trivial (by decide +kernel) (by exact e275) ?_
        refine ev_r_iload_n (pc := 204) (k := 1) (v := Int32.ofInt a0) (by decide +kernel) (by exact e276) ?_
        refine ev_r_iload (pc := 205) (k := 12) (v := Int32.ofInt x225) (by decide +kernel) (by exact e284) ?_
        refine ev_r_virt (pc := 207) (y := 751) (mi := 339) (na := 2) (k := 621) (as := [.int (Int32.ofInt a0), .int (Int32.ofInt x225)]) (rest := []) (encc := ev_oI) (Q := ev_bl) (fun x S1 h => jt_339 d (by omega) Q a0 x225 ha0 hx225 s287 x S1 h) (by exact ev_ob_621) (by decide +kernel) (by decide +kernel) (by decide +kernel) (by decide +kernel) rfl (by (try simp only [ev_sum, ev_nv_cat]); first | done | rfl) ?_
        intro x302 s301 hx302
        replace hx302 := ev_bl_rng hx302
        show ev_w _ _ _ _ _ [.int (Int32.ofInt x302)] _ _ _ _
        refine ev_r_if (pc := 210) (q := .eq) (o := 34) (t := 244) (c := x302 = 0) (by decide +kernel) (ev_k_eq hx302 ev_rng0) (by decide +kernel) ?_ ?_
        · intro c303
          exact hK244  s301 _ (by exact e275) (by exact e276) (by exact e277) (by exact e278) (by exact e279) (by exact e280) (by exact e281) (by exact e282) (by exact e283)
        · intro c303
          refine ev_r_iload (pc := 213) (k := 14) (v := Int32.ofInt x273) (by decide +kernel) (by exact e286) ?_
          refine ev_r_aload_n (pc := 215) (k := 0) (v := .ref 621) trivial (by decide +kernel) (by exact e275) ?_
          refine ev_r_getC (pc := 216) (y := 187) (ci := 13) (f := 87) (fin := 1) (k' := 680) (by decide +kernel) (by decide +kernel) (by exact ev_ob_621) rfl rfl ?_
          refine ev_r_iload (pc := 219) (k := 12) (v := Int32.ofInt x225) (by decide +kernel) (by exact e284) ?_
          refine ev_r_iald (pc := 221) hx225 (by decide +kernel) (by exact ev_ab_680) ?_
          intro x304 hx304
          refine ev_r_icmp (pc := 222) (q := .ge) (o := 22) (t := 244) (c := x304 ≤ x273) (by decide +kernel) (ev_k_ge hx273 hx304) (by decide +kernel) ?_ ?_
          · intro c305
            exact hK244  s301 _ (by exact e275) (by exact e276) (by exact e277) (by exact e278) (by exact e279) (by exact e280) (by exact e281) (by exact e282) (by exact e283)
          · intro c305
            refine ev_r_aload_n (pc := 225) (k := 0) (v := .ref 621) trivial (by decide +kernel) (by exact e275) ?_
            refine ev_r_aload_n (pc := 226) (k := 0) (v := .ref 621) trivial (by decide +kernel) (by exact e275) ?_
            refine ev_r_getC (pc := 227) (y := 181) (ci := 13) (f := 74) (fin := 1) (k' := 678) (by decide +kernel) (by decide +kernel) (by exact ev_ob_621) rfl rfl ?_
            refine ev_r_iload (pc := 230) (k := 14) (v := Int32.ofInt x273) (by decide +kernel) (by exact e286) ?_
            refine ev_r_iald (pc := 232) hx273 (by decide +kernel) (by exact ev_ab_678) ?_
            intro x306 hx306
            refine ev_r_iload (pc := 233) (k := 4) (v := Int32.ofInt x4) (by decide +kernel) (by exact e278) ?_
            refine ev_r_virt (pc := 235) (y := 754) (mi := 338) (na := 2) (k := 621) (as := [.int (Int32.ofInt x306), .int (Int32.ofInt x4)]) (rest := []) (encc := ev_oU) (Q := ev_PU) (fun x S1 h => jt_338 d (by omega) Q x306 x4 hx306 hx4 s301 x S1 h) (by exact ev_ob_621) (by decide +kernel) (by decide +kernel) (by decide +kernel) (by decide +kernel) rfl (by (try simp only [ev_sum, ev_nv_cat]); first | done | rfl) ?_
            intro _ s307 _
            show ev_w _ _ _ _ _ [] _ _ _ _
            refine ev_r_iinc (pc := 238) (k := 14) (c := 1) (x := x273) (by decide +kernel) (by decide +kernel) (by exact e286) (fun _ => rfl) ?_
            intro x308 hx308
            refine ev_r_goto (pc := 241) (o := (-48)) (t := 193) (by decide +kernel) (by decide +kernel) ?_
            exact hK193 x308 hx308 s307 _ (by exact (ev_l1 e275 (by decide) (by decide))) (by exact (ev_l1 e276 (by decide) (by decide))) (by exact (ev_l1 e277 (by decide) (by decide))) (by exact (ev_l1 e278 (by decide) (by decide))) (by exact (ev_l1 e279 (by decide) (by decide))) (by exact (ev_l1 e280 (by decide) (by decide))) (by exact (ev_l1 e281 (by decide) (by decide))) (by exact (ev_l1 e282 (by decide) (by decide))) (by exact (ev_l1 e283 (by decide) (by decide))) (by exact (ev_l1 e284 (by decide) (by decide))) (by exact (ev_lk_st1 e285 (by decide) rfl)) (by exact ev_lk_st1_self)
theorem jlt_340_193 (d : Nat) (hd : 5 ≤ d + 1) (Q : Nat) (a0 : Int) (a2 : Int) (x4 : Int) (x5 : Int) (x6 : Int) (x7 : Int) (x9 : Int) (x225 : Int) (x242 : Int) (x258 : Int) (ha0 : ev_rng a0) (ha2 : ev_rng a2) (hx4 : ev_rng x4) (hx5 : ev_rng x5) (hx6 : ev_rng x6) (hx7 : ev_rng x7) (hx9 : ev_rng x9) (hx225 : ev_rng x225) (hx242 : ev_rng x242) (hx258 : ev_rng x258) (K498 : Int → Int → Int → Int → Int → ev_St → Option ((Unit) × ev_St)) (hK498 : ∀ (x39 : Int) (hx39 : ev_rng x39), ∀ (x40 : Int) (hx40 : ev_rng x40), ∀ (x41 : Int) (hx41 : ev_rng x41), ∀ (x42 : Int) (hx42 : ev_rng x42), ∀ (x43 : Int) (hx43 : ev_rng x43), ∀ (s54 : ev_St) (w44 : List (Nat × Value)), ev_lk w44 0 = some (.ref 621) → ev_lk w44 1 = some (.int (Int32.ofInt a0)) → ev_lk w44 3 = some (.int (Int32.ofInt a2)) → ev_lk w44 4 = some (.int (Int32.ofInt x39)) → ev_lk w44 5 = some (.int (Int32.ofInt x40)) → ev_lk w44 6 = some (.int (Int32.ofInt x41)) → ev_lk w44 7 = some (.int (Int32.ofInt x42)) → ev_lk w44 8 = some (.int (Int32.ofInt x43)) → ev_lk w44 9 = some (.int (Int32.ofInt x9)) → ev_w none (ev_Mof 340) d 498 w44 [] s54 (K498 x39 x40 x41 x42 x43 s54) ev_eU ev_PU) : ∀ q : Nat, ∀ (x273 : Int) (hx273 : ev_rng x273), ∀ (s287 : ev_St) (w274 : List (Nat × Value)), ev_lk w274 0 = some (.ref 621) → ev_lk w274 1 = some (.int (Int32.ofInt a0)) → ev_lk w274 3 = some (.int (Int32.ofInt a2)) → ev_lk w274 4 = some (.int (Int32.ofInt x4)) → ev_lk w274 5 = some (.int (Int32.ofInt x5)) → ev_lk w274 6 = some (.int (Int32.ofInt x6)) → ev_lk w274 7 = some (.int (Int32.ofInt x7)) → ev_lk w274 8 = some (.int (Int32.ofInt x258)) → ev_lk w274 9 = some (.int (Int32.ofInt x9)) → ev_lk w274 12 = some (.int (Int32.ofInt x225)) → ev_lk w274 13 = some (.int (Int32.ofInt x242)) → ev_lk w274 14 = some (.int (Int32.ofInt x273)) → ev_w none (ev_Mof 340) d 193 w274 [] s287 (jl_340_193 Q a0 a2 x4 x5 x6 x7 x9 x225 x242 x258 K498 q x273 s287) ev_eU ev_PU := by
  intro q
  induction q with
  | zero =>
    intro x273 hx273 s287 w274 e275 e276 e277 e278 e279 e280 e281 e282 e283 e284 e285 e286
    exact ev_w_none
  | succ q ih => exact jbt_340_193 d hd Q a0 a2 x4 x5 x6 x7 x9 x225 x242 x258 ha0 ha2 hx4 hx5 hx6 hx7 hx9 hx225 hx242 hx258 K498 hK498 _ ih
def jb_340_29 (Q : Nat) (a0 : Int) (a2 : Int)  (K29 : Int → Int → Int → Int → Int → Int → ev_St → Option ((Unit) × ev_St)) (x4 : Int) (x5 : Int) (x6 : Int) (x7 : Int) (x8 : Int) (x9 : Int) (s20 : ev_St) : Option ((Unit) × ev_St) := if x9 ≤ x8 then (some ((), s20)) else (ev_if ((0 : Int) ≤ x8 ∧ x8 < (ev_aln 700 : Int)) (ev_b (s20.1 700 (Int.toNat x8)) fun x22 => ev_ck (x8 + 1) fun x23 => ev_jn (fun (x24 : Int) (x25 : Int) (s37 : ev_St) => ev_ck (x8 + 1) fun x38 => ev_jn (fun (x39 : Int) (x40 : Int) (x41 : Int) (x42 : Int) (x43 : Int) (s54 : ev_St) => K29 x39 x40 x41 x42 x43 x9 s54) fun K498 => if x24 ≠ 36 then (if x24 ≠ 92 then (if x24 ≠ 63 then (ev_jn (fun  (s69 : ev_St) => ev_jn (fun  (s81 : ev_St) => if x6 = 0 then (K498 x4 x5 x6 x7 x38 s81) else (ev_bd (jm_338 Q x24 x4 s81) fun _ s83 => K498 x4 x5 x6 x7 x38 s83)) fun K485 => if x5 ≠ 1 then (K485  s69) else (if x24 ≠ 124 then (K485  s69) else (ev_jn (fun (x86 : Int) (s95 : ev_St) => K498 x4 2 x86 x7 x38 s95) fun K477 => if x7 ≠ 0 then (K477 0 s69) else (K477 1 s69)))) fun K454 => if x5 ≤ 0 then (K454  s37) else (if x24 ≠ 125 then (K454  s37) else (K498 x4 0 1 x7 x38 s37))) else (ev_ck (x25 - 48) fun x99 => ev_bd (jm_339 Q a0 x99 s37) fun x101 s100 => ev_ck (x38 + 2) fun x102 => K498 x4 1 x101 x101 x102 s100)) else (ev_ck (x38 + 1) fun x103 => ev_jn (fun (x104 : Int) (s116 : ev_St) => ev_jn (fun  (s128 : ev_St) => if x6 = 0 then (K498 x4 x5 x6 x7 x104 s128) else (ev_jn (fun  (s141 : ev_St) => ev_jn (fun (x142 : Int) (s153 : ev_St) => ev_bd (jm_338 Q x142 x4 s153) fun _ s154 => K498 x4 x5 x6 x7 x104 s154) fun K393 => if x25 ≠ 110 then (K393 x25 s141) else (K393 10 s141)) fun K378 => if x25 = 110 then (K378  s128) else (ev_bd (jm_228 Q x25 s128) fun x158 s157 => if x158 = 0 then (K498 x4 x5 x6 x7 x104 s157) else (K378  s157)))) fun K358 => if x6 = 0 then (K358  s116) else (if x25 ≠ 35 then (K358  s116) else (ev_jn (fun  (s172 : ev_St) => ev_if (10 ≠ 0) (ev_b (ev_irem a2 10) fun x173 => ev_ck (48 + x173) fun x174 => ev_bd (jm_338 Q x174 x4 s172) fun _ s175 => K498 x4 x5 x6 x7 x104 s175)) fun K342 => if a2 ≤ 9 then (K342  s116) else (ev_if (10 ≠ 0) (ev_b (ev_idiv a2 10) fun x177 => ev_ck (48 + x177) fun x178 => ev_bd (jm_338 Q x178 x4 s116) fun _ s179 => K342  s179))))) fun K311 => if x6 = 0 then (K311 x103 s37) else (ev_jn (fun  (s191 : ev_St) => ev_jn (fun (x192 : Int) (s202 : ev_St) => K498 x192 x5 x6 x7 x103 s202) fun K306 => if x25 ≠ 85 then (if x25 ≠ 76 then (K306 0 s191) else (K306 2 s191)) else (K306 1 s191)) fun K283 => if x25 = 85 then (K283  s37) else (if x25 = 76 then (K283  s37) else (if x25 ≠ 69 then (K311 x103 s37) else (K283  s37)))))) else (ev_bd (jm_226 Q x25 s37) fun x209 s208 => ev_jn (fun (x210 : Int) (s222 : ev_St) => ev_bd (jm_226 Q x25 s222) fun x224 s223 => ev_jn (fun (x225 : Int) (x226 : Int) (s239 : ev_St) => ev_bd (jm_226 Q x25 s239) fun x241 s240 => ev_jn (fun (x242 : Int) (x244 : Int) (x243 : Int) (s256 : ev_St) => ev_ck (x243 + x244) fun x257 => ev_jn (fun (x258 : Int) (x259 : Int) (s272 : ev_St) => jl_340_193 Q a0 a2 x4 x5 x6 x7 x9 x225 x242 x258 K498 Q x259 s272) fun K191 => ev_jn (fun (x309 : Int) (s322 : ev_St) => ev_b (s322.1 621 73) fun x323 => K191 x309 x323 s322) fun K187 => if x242 = 0 then (K187 x257 s256) else (if x6 = 0 then (K187 x257 s256) else (ev_bd (jm_339 Q a0 x225 s256) fun x327 s326 => if x327 = 0 then (K187 x257 s326) else (ev_if ((0 : Int) ≤ x225 ∧ x225 < (ev_aln 679 : Int)) (ev_b (s326.1 679 (Int.toNat x225)) fun x329 => K191 x257 x329 s326))))) fun K154 => if x241 = 0 then (K154 x226 3 x38 s240) else (K154 x226 1 x38 s240)) fun K137 => ev_jn (fun (x331 : Int) (s344 : ev_St) => K137 x331 1 s344) fun K132 => if x224 ≠ 0 then (K132 x210 s223) else (if x210 ≤ 0 then (K137 x210 0 s223) else (K132 x210 s223))) fun K117 => if x209 = 0 then (ev_ck (26 * a0) fun x348 => ev_ck (x38 + 1) fun x349 => ev_if ((0 : Int) ≤ x349 ∧ x349 < (ev_aln 700 : Int)) (ev_b (s208.1 700 (Int.toNat x349)) fun x350 => ev_ck (x348 + x350) fun x351 => ev_ck (x351 - 97) fun x352 => ev_if ((0 : Int) ≤ x352 ∧ x352 < (ev_aln 638 : Int)) (ev_b (s208.1 638 (Int.toNat x352)) fun x353 => K117 x353 s208))) else (ev_ck (x25 - 48) fun x354 => K117 x354 s208))) fun K67 => if x9 ≤ x23 then (K67 x22 ((-1)) s20) else (ev_ck (x8 + 1) fun x356 => ev_if ((0 : Int) ≤ x356 ∧ x356 < (ev_aln 700 : Int)) (ev_b (s20.1 700 (Int.toNat x356)) fun x357 => K67 x22 x357 s20))))
def jl_340_29 (Q : Nat) (a0 : Int) (a2 : Int)  : Nat → Int → Int → Int → Int → Int → Int → ev_St → Option ((Unit) × ev_St)
  | 0 => fun _ _ _ _ _ _ _ => none
  | q + 1 => jb_340_29 Q a0 a2  (jl_340_29 Q a0 a2  q)
theorem jbt_340_29 (d : Nat) (hd : 5 ≤ d + 1) (Q : Nat) (a0 : Int) (a2 : Int) (ha0 : ev_rng a0) (ha2 : ev_rng a2)   (K29 : Int → Int → Int → Int → Int → Int → ev_St → Option ((Unit) × ev_St)) (hK29 : ∀ (x4 : Int) (hx4 : ev_rng x4), ∀ (x5 : Int) (hx5 : ev_rng x5), ∀ (x6 : Int) (hx6 : ev_rng x6), ∀ (x7 : Int) (hx7 : ev_rng x7), ∀ (x8 : Int) (hx8 : ev_rng x8), ∀ (x9 : Int) (hx9 : ev_rng x9), ∀ (s20 : ev_St) (w10 : List (Nat × Value)), ev_lk w10 0 = some (.ref 621) → ev_lk w10 1 = some (.int (Int32.ofInt a0)) → ev_lk w10 3 = some (.int (Int32.ofInt a2)) → ev_lk w10 4 = some (.int (Int32.ofInt x4)) → ev_lk w10 5 = some (.int (Int32.ofInt x5)) → ev_lk w10 6 = some (.int (Int32.ofInt x6)) → ev_lk w10 7 = some (.int (Int32.ofInt x7)) → ev_lk w10 8 = some (.int (Int32.ofInt x8)) → ev_lk w10 9 = some (.int (Int32.ofInt x9)) → ev_w none (ev_Mof 340) d 29 w10 [] s20 (K29 x4 x5 x6 x7 x8 x9 s20) ev_eU ev_PU) : ∀ (x4 : Int) (hx4 : ev_rng x4), ∀ (x5 : Int) (hx5 : ev_rng x5), ∀ (x6 : Int) (hx6 : ev_rng x6), ∀ (x7 : Int) (hx7 : ev_rng x7), ∀ (x8 : Int) (hx8 : ev_rng x8), ∀ (x9 : Int) (hx9 : ev_rng x9), ∀ (s20 : ev_St) (w10 : List (Nat × Value)), ev_lk w10 0 = some (.ref 621) → ev_lk w10 1 = some (.int (Int32.ofInt a0)) → ev_lk w10 3 = some (.int (Int32.ofInt a2)) → ev_lk w10 4 = some (.int (Int32.ofInt x4)) → ev_lk w10 5 = some (.int (Int32.ofInt x5)) → ev_lk w10 6 = some (.int (Int32.ofInt x6)) → ev_lk w10 7 = some (.int (Int32.ofInt x7)) → ev_lk w10 8 = some (.int (Int32.ofInt x8)) → ev_lk w10 9 = some (.int (Int32.ofInt x9)) → ev_w none (ev_Mof 340) d 29 w10 [] s20 (jb_340_29 Q a0 a2  K29 x4 x5 x6 x7 x8 x9 s20) ev_eU ev_PU := by
  intro x4 hx4 x5 hx5 x6 hx6 x7 hx7 x8 hx8 x9 hx9 s20 w10 e11 e12 e13 e14 e15 e16 e17 e18 e19
  unfold jb_340_29
  refine ev_r_iload (pc := 29) (k := 8) (v := Int32.ofInt x8) (by decide +kernel) (by exact e18) ?_
  refine ev_r_iload (pc := 31) (k := 9) (v := Int32.ofInt x9) (by decide +kernel) (by exact e19) ?_
  refine ev_r_icmp (pc := 33) (q := .ge) (o := 468) (t := 501) (c := x9 ≤ x8) (by decide +kernel) (ev_k_ge hx8 hx9) (by decide +kernel) ?_ ?_
  · intro c21
    exact ev_r_return (pc := 501) (x := ()) trivial (by decide +kernel) (by decide +kernel) rfl
  · intro c21
    refine ev_r_aload_n (pc := 36) (k := 0) (v := .ref 621) trivial (by decide +kernel) (by exact e11) ?_
    refine ev_r_getC (pc := 37) (y := 249) (ci := 13) (f := 111) (fin := 1) (k' := 700) (by decide +kernel) (by decide +kernel) (by exact ev_ob_621) rfl rfl ?_
    refine ev_r_iload (pc := 40) (k := 8) (v := Int32.ofInt x8) (by decide +kernel) (by exact e18) ?_
    refine ev_r_iald (pc := 42) hx8 (by decide +kernel) (by exact ev_ab_700) ?_
    intro x22 hx22
    refine ev_r_istore (pc := 43) (k := 10) (by decide +kernel) (by decide +kernel) rfl ?_
    refine ev_r_iload (pc := 45) (k := 8) (v := Int32.ofInt x8) (by decide +kernel) (by exact (ev_l1 e18 (by decide) (by decide))) ?_
    refine ev_r_iconst (pc := 47) (k := 1) (by decide +kernel) ?_
    refine ev_r_iadd (pc := 48) (by decide +kernel) ?_
    intro x23 hx23
    refine ev_r_iload (pc := 49) (k := 9) (v := Int32.ofInt x9) (by decide +kernel) (by exact (ev_lk_st1 e19 (by decide) rfl)) ?_
    refine ev_r_jn (Q := fun K => ∀ (x24 : Int) (hx24 : ev_rng x24), ∀ (x25 : Int) (hx25 : ev_rng x25), ∀ (s37 : ev_St) (w26 : List (Nat × Value)), ev_lk w26 0 = some (.ref 621) → ev_lk w26 1 = some (.int (Int32.ofInt a0)) → ev_lk w26 3 = some (.int (Int32.ofInt a2)) → ev_lk w26 4 = some (.int (Int32.ofInt x4)) → ev_lk w26 5 = some (.int (Int32.ofInt x5)) → ev_lk w26 6 = some (.int (Int32.ofInt x6)) → ev_lk w26 7 = some (.int (Int32.ofInt x7)) → ev_lk w26 8 = some (.int (Int32.ofInt x8)) → ev_lk w26 9 = some (.int (Int32.ofInt x9)) → ev_lk w26 10 = some (.int (Int32.ofInt x24)) → ev_w none (ev_Mof 340) d 67 w26 [.int (Int32.ofInt x25)] s37 (K x24 x25 s37) ev_eU ev_PU) ?_ ?_
    · intro x24 hx24 x25 hx25 s37 w26 e27 e28 e29 e30 e31 e32 e33 e34 e35 e36
      refine ev_r_istore (pc := 67) (k := 11) (by decide +kernel) (by decide +kernel) rfl ?_
      refine ev_r_iinc (pc := 69) (k := 8) (c := 1) (x := x8) (by decide +kernel) (by decide +kernel) (by exact (ev_l1 e34 (by decide) (by decide))) (fun _ => rfl) ?_
      intro x38 hx38
      refine ev_r_iload (pc := 72) (k := 10) (v := Int32.ofInt x24) (by decide +kernel) (by exact (ev_l1 (ev_lk_st1 e36 (by decide) rfl) (by decide) (by decide))) ?_
      refine ev_r_bipush (pc := 74) (k := 36) (by decide +kernel) (by decide +kernel) ?_
      refine ev_r_jn (Q := fun K => ∀ (x39 : Int) (hx39 : ev_rng x39), ∀ (x40 : Int) (hx40 : ev_rng x40), ∀ (x41 : Int) (hx41 : ev_rng x41), ∀ (x42 : Int) (hx42 : ev_rng x42), ∀ (x43 : Int) (hx43 : ev_rng x43), ∀ (s54 : ev_St) (w44 : List (Nat × Value)), ev_lk w44 0 = some (.ref 621) → ev_lk w44 1 = some (.int (Int32.ofInt a0)) → ev_lk w44 3 = some (.int (Int32.ofInt a2)) → ev_lk w44 4 = some (.int (Int32.ofInt x39)) → ev_lk w44 5 = some (.int (Int32.ofInt x40)) → ev_lk w44 6 = some (.int (Int32.ofInt x41)) → ev_lk w44 7 = some (.int (Int32.ofInt x42)) → ev_lk w44 8 = some (.int (Int32.ofInt x43)) → ev_lk w44 9 = some (.int (Int32.ofInt x9)) → ev_w none (ev_Mof 340) d 498 w44 [] s54 (K x39 x40 x41 x42 x43 s54) ev_eU ev_PU) ?_ ?_
      · intro x39 hx39 x40 hx40 x41 hx41 x42 hx42 x43 hx43 s54 w44 e45 e46 e47 e48 e49 e50 e51 e52 e53
        refine ev_r_goto (pc := 498) (o := (-469)) (t := 29) (by decide +kernel) (by decide +kernel) ?_
        exact hK29 x39 hx39 x40 hx40 x41 hx41 x42 hx42 x43 hx43 x9 hx9 s54 _ (by exact e45) (by exact e46) (by exact e47) (by exact e48) (by exact e49) (by exact e50) (by exact e51) (by exact e52) (by exact e53)
      · intro K498 hK498
        refine ev_r_icmp (pc := 76) (q := .ne) (o := 171) (t := 247) (c := x24 ≠ 36) (by decide +kernel) (ev_k_ne hx24 (by decide)) (by decide +kernel) ?_ ?_
        · intro c55
          refine ev_r_iload (pc := 247) (k := 10) (v := Int32.ofInt x24) (by decide +kernel) (by exact (ev_l1 (ev_lk_st1 e36 (by decide) rfl) (by decide) (by decide))) ?_
          refine ev_r_bipush (pc := 249) (k := 92) (by decide +kernel) (by decide +kernel) ?_
          refine ev_r_icmp (pc := 251) (q := .ne) (o := 150) (t := 401) (c := x24 ≠ 92) (by decide +kernel) (ev_k_ne hx24 (by decide)) (by decide +kernel) ?_ ?_
          · intro c56
            refine ev_r_iload (pc := 401) (k := 10) (v := Int32.ofInt x24) (by decide +kernel) (by exact (ev_l1 (ev_lk_st1 e36 (by decide) rfl) (by decide) (by decide))) ?_
            refine ev_r_bipush (pc := 403) (k := 63) (by decide +kernel) (by decide +kernel) ?_
            refine ev_r_icmp (pc := 405) (q := .ne) (o := 28) (t := 433) (c := x24 ≠ 63) (by decide +kernel) (ev_k_ne hx24 (by decide)) (by decide +kernel) ?_ ?_
            · intro c57
              refine ev_r_iload (pc := 433) (k := 5) (v := Int32.ofInt x5) (by decide +kernel) (by exact (ev_l1 (ev_l1 e31 (by decide) (by decide)) (by decide) (by decide))) ?_
              refine ev_r_jn (Q := fun K => ∀ (s69 : ev_St) (w58 : List (Nat × Value)), ev_lk w58 0 = some (.ref 621) → ev_lk w58 1 = some (.int (Int32.ofInt a0)) → ev_lk w58 3 = some (.int (Int32.ofInt a2)) → ev_lk w58 4 = some (.int (Int32.ofInt x4)) → ev_lk w58 5 = some (.int (Int32.ofInt x5)) → ev_lk w58 6 = some (.int (Int32.ofInt x6)) → ev_lk w58 7 = some (.int (Int32.ofInt x7)) → ev_lk w58 8 = some (.int (Int32.ofInt x38)) → ev_lk w58 9 = some (.int (Int32.ofInt x9)) → ev_lk w58 10 = some (.int (Int32.ofInt x24)) → ev_w none (ev_Mof 340) d 454 w58 [] s69 (K  s69) ev_eU ev_PU) ?_ ?_
              · intro  s69 w58 e59 e60 e61 e62 e63 e64 e65 e66 e67 e68
                refine ev_r_iload (pc := 454) (k := 5) (v := Int32.ofInt x5) (by decide +kernel) (by exact e63) ?_
                refine ev_r_iconst (pc := 456) (k := 1) (by decide +kernel) ?_
                refine ev_r_jn (Q := fun K => ∀ (s81 : ev_St) (w70 : List (Nat × Value)), ev_lk w70 0 = some (.ref 621) → ev_lk w70 1 = some (.int (Int32.ofInt a0)) → ev_lk w70 3 = some (.int (Int32.ofInt a2)) → ev_lk w70 4 = some (.int (Int32.ofInt x4)) → ev_lk w70 5 = some (.int (Int32.ofInt x5)) → ev_lk w70 6 = some (.int (Int32.ofInt x6)) → ev_lk w70 7 = some (.int (Int32.ofInt x7)) → ev_lk w70 8 = some (.int (Int32.ofInt x38)) → ev_lk w70 9 = some (.int (Int32.ofInt x9)) → ev_lk w70 10 = some (.int (Int32.ofInt x24)) → ev_w none (ev_Mof 340) d 485 w70 [] s81 (K  s81) ev_eU ev_PU) ?_ ?_
                · intro  s81 w70 e71 e72 e73 e74 e75 e76 e77 e78 e79 e80
                  refine ev_r_iload (pc := 485) (k := 6) (v := Int32.ofInt x6) (by decide +kernel) (by exact e76) ?_
                  refine ev_r_if (pc := 487) (q := .eq) (o := 11) (t := 498) (c := x6 = 0) (by decide +kernel) (ev_k_eq hx6 ev_rng0) (by decide +kernel) ?_ ?_
                  · intro c82
                    exact hK498 x4 hx4 x5 hx5 x6 hx6 x7 hx7 x38 hx38 s81 _ (by exact e71) (by exact e72) (by exact e73) (by exact e74) (by exact e75) (by exact e76) (by exact e77) (by exact e78) (by exact e79)
                  · intro c82
                    refine ev_r_aload_n (pc := 490) (k := 0) (v := .ref 621) trivial (by decide +kernel) (by exact e71) ?_
                    refine ev_r_iload (pc := 491) (k := 10) (v := Int32.ofInt x24) (by decide +kernel) (by exact e80) ?_
                    refine ev_r_iload (pc := 493) (k := 4) (v := Int32.ofInt x4) (by decide +kernel) (by exact e74) ?_
                    refine ev_r_virt (pc := 495) (y := 754) (mi := 338) (na := 2) (k := 621) (as := [.int (Int32.ofInt x24), .int (Int32.ofInt x4)]) (rest := []) (encc := ev_oU) (Q := ev_PU) (fun x S1 h => jt_338 d (by omega) Q x24 x4 hx24 hx4 s81 x S1 h) (by exact ev_ob_621) (by decide +kernel) (by decide +kernel) (by decide +kernel) (by decide +kernel) rfl (by (try simp only [ev_sum, ev_nv_cat]); first | done | rfl) ?_
                    intro _ s83 _
                    show ev_w _ _ _ _ _ [] _ _ _ _
                    exact hK498 x4 hx4 x5 hx5 x6 hx6 x7 hx7 x38 hx38 s83 _ (by exact e71) (by exact e72) (by exact e73) (by exact e74) (by exact e75) (by exact e76) (by exact e77) (by exact e78) (by exact e79)
                · intro K485 hK485
                  refine ev_r_icmp (pc := 457) (q := .ne) (o := 28) (t := 485) (c := x5 ≠ 1) (by decide +kernel) (ev_k_ne hx5 (by decide)) (by decide +kernel) ?_ ?_
                  · intro c84
                    exact hK485  s69 _ (by exact e59) (by exact e60) (by exact e61) (by exact e62) (by exact e63) (by exact e64) (by exact e65) (by exact e66) (by exact e67) (by exact e68)
                  · intro c84
                    refine ev_r_iload (pc := 460) (k := 10) (v := Int32.ofInt x24) (by decide +kernel) (by exact e68) ?_
                    refine ev_r_bipush (pc := 462) (k := 124) (by decide +kernel) (by decide +kernel) ?_
                    refine ev_r_icmp (pc := 464) (q := .ne) (o := 21) (t := 485) (c := x24 ≠ 124) (by decide +kernel) (ev_k_ne hx24 (by decide)) (by decide +kernel) ?_ ?_
                    · intro c85
                      exact hK485  s69 _ (by exact e59) (by exact e60) (by exact e61) (by exact e62) (by exact e63) (by exact e64) (by exact e65) (by exact e66) (by exact e67) (by exact e68)
                    · intro c85
                      refine ev_r_iload (pc := 467) (k := 7) (v := Int32.ofInt x7) (by decide +kernel) (by exact e65) ?_
                      refine ev_r_jn (Q := fun K => ∀ (x86 : Int) (hx86 : ev_rng x86), ∀ (s95 : ev_St) (w87 : List (Nat × Value)), ev_lk w87 0 = some (.ref 621) → ev_lk w87 1 = some (.int (Int32.ofInt a0)) → ev_lk w87 3 = some (.int (Int32.ofInt a2)) → ev_lk w87 4 = some (.int (Int32.ofInt x4)) → ev_lk w87 7 = some (.int (Int32.ofInt x7)) → ev_lk w87 8 = some (.int (Int32.ofInt x38)) → ev_lk w87 9 = some (.int (Int32.ofInt x9)) → ev_w none (ev_Mof 340) d 477 w87 [.int (Int32.ofInt x86)] s95 (K x86 s95) ev_eU ev_PU) ?_ ?_
                      · intro x86 hx86 s95 w87 e88 e89 e90 e91 e92 e93 e94
                        refine ev_r_istore (pc := 477) (k := 6) (by decide +kernel) (by decide +kernel) rfl ?_
                        refine ev_r_iconst (pc := 479) (k := 2) (by decide +kernel) ?_
                        refine ev_r_istore (pc := 480) (k := 5) (by decide +kernel) (by decide +kernel) rfl ?_
                        refine ev_r_goto (pc := 482) (o := 16) (t := 498) (by decide +kernel) (by decide +kernel) ?_
                        exact hK498 x4 hx4 2 (by decide) x86 hx86 x7 hx7 x38 hx38 s95 _ (by exact (ev_l1 (ev_l1 e88 (by decide) (by decide)) (by decide) (by decide))) (by exact (ev_l1 (ev_l1 e89 (by decide) (by decide)) (by decide) (by decide))) (by exact (ev_l1 (ev_l1 e90 (by decide) (by decide)) (by decide) (by decide))) (by exact (ev_lk_st1 (ev_l1 e91 (by decide) (by decide)) (by decide) rfl)) (by exact ev_lk_st1_self) (by exact (ev_l1 ev_lk_st1_self (by decide) (by decide))) (by exact (ev_l1 (ev_l1 e92 (by decide) (by decide)) (by decide) (by decide))) (by exact (ev_l1 (ev_l1 e93 (by decide) (by decide)) (by decide) (by decide))) (by exact (ev_l1 (ev_l1 e94 (by decide) (by decide)) (by decide) (by decide)))
                      · intro K477 hK477
                        refine ev_r_if (pc := 469) (q := .ne) (o := 7) (t := 476) (c := x7 ≠ 0) (by decide +kernel) (ev_k_ne hx7 ev_rng0) (by decide +kernel) ?_ ?_
                        · intro c96
                          refine ev_r_iconst (pc := 476) (k := 0) (by decide +kernel) ?_
                          exact hK477 0 (by decide) s69 _ (by exact e59) (by exact e60) (by exact e61) (by exact e62) (by exact e65) (by exact e66) (by exact e67)
                        · intro c96
                          refine ev_r_iconst (pc := 472) (k := 1) (by decide +kernel) ?_
                          refine ev_r_goto (pc := 473) (o := 4) (t := 477) (by decide +kernel) (by decide +kernel) ?_
                          exact hK477 1 (by decide) s69 _ (by exact e59) (by exact e60) (by exact e61) (by exact e62) (by exact e65) (by exact e66) (by exact e67)
              · intro K454 hK454
                refine ev_r_if (pc := 435) (q := .le) (o := 19) (t := 454) (c := x5 ≤ 0) (by decide +kernel) (ev_k_le hx5 ev_rng0) (by decide +kernel) ?_ ?_
                · intro c97
                  exact hK454  s37 _ (by exact (ev_l1 (ev_l1 e27 (by decide) (by decide)) (by decide) (by decide))) (by exact (ev_l1 (ev_l1 e28 (by decide) (by decide)) (by decide) (by decide))) (by exact (ev_l1 (ev_l1 e29 (by decide) (by decide)) (by decide) (by decide))) (by exact (ev_l1 (ev_l1 e30 (by decide) (by decide)) (by decide) (by decide))) (by exact (ev_l1 (ev_l1 e31 (by decide) (by decide)) (by decide) (by decide))) (by exact (ev_l1 (ev_l1 e32 (by decide) (by decide)) (by decide) (by decide))) (by exact (ev_lk_st1 (ev_l1 e33 (by decide) (by decide)) (by decide) rfl)) (by exact ev_lk_st1_self) (by exact (ev_l1 (ev_l1 e35 (by decide) (by decide)) (by decide) (by decide))) (by exact (ev_l1 (ev_lk_st1 e36 (by decide) rfl) (by decide) (by decide)))
                · intro c97
                  refine ev_r_iload (pc := 438) (k := 10) (v := Int32.ofInt x24) (by decide +kernel) (by exact (ev_l1 (ev_lk_st1 e36 (by decide) rfl) (by decide) (by decide))) ?_
                  refine ev_r_bipush (pc := 440) (k := 125) (by decide +kernel) (by decide +kernel) ?_
                  refine ev_r_icmp (pc := 442) (q := .ne) (o := 12) (t := 454) (c := x24 ≠ 125) (by decide +kernel) (ev_k_ne hx24 (by decide)) (by decide +kernel) ?_ ?_
                  · intro c98
                    exact hK454  s37 _ (by exact (ev_l1 (ev_l1 e27 (by decide) (by decide)) (by decide) (by decide))) (by exact (ev_l1 (ev_l1 e28 (by decide) (by decide)) (by decide) (by decide))) (by exact (ev_l1 (ev_l1 e29 (by decide) (by decide)) (by decide) (by decide))) (by exact (ev_l1 (ev_l1 e30 (by decide) (by decide)) (by decide) (by decide))) (by exact (ev_l1 (ev_l1 e31 (by decide) (by decide)) (by decide) (by decide))) (by exact (ev_l1 (ev_l1 e32 (by decide) (by decide)) (by decide) (by decide))) (by exact (ev_lk_st1 (ev_l1 e33 (by decide) (by decide)) (by decide) rfl)) (by exact ev_lk_st1_self) (by exact (ev_l1 (ev_l1 e35 (by decide) (by decide)) (by decide) (by decide))) (by exact (ev_l1 (ev_lk_st1 e36 (by decide) rfl) (by decide) (by decide)))
                  · intro c98
                    refine ev_r_iconst (pc := 445) (k := 0) (by decide +kernel) ?_
                    refine ev_r_istore (pc := 446) (k := 5) (by decide +kernel) (by decide +kernel) rfl ?_
                    refine ev_r_iconst (pc := 448) (k := 1) (by decide +kernel) ?_
                    refine ev_r_istore (pc := 449) (k := 6) (by decide +kernel) (by decide +kernel) rfl ?_
                    refine ev_r_goto (pc := 451) (o := 47) (t := 498) (by decide +kernel) (by decide +kernel) ?_
                    exact hK498 x4 hx4 0 (by decide) 1 (by decide) x7 hx7 x38 hx38 s37 _ (by exact (ev_l1 (ev_l1 (ev_l1 (ev_l1 e27 (by decide) (by decide)) (by decide) (by decide)) (by decide) (by decide)) (by decide) (by decide))) (by exact (ev_l1 (ev_l1 (ev_l1 (ev_l1 e28 (by decide) (by decide)) (by decide) (by decide)) (by decide) (by decide)) (by decide) (by decide))) (by exact (ev_l1 (ev_l1 (ev_l1 (ev_l1 e29 (by decide) (by decide)) (by decide) (by decide)) (by decide) (by decide)) (by decide) (by decide))) (by exact (ev_l1 (ev_lk_st1 (ev_l1 (ev_l1 e30 (by decide) (by decide)) (by decide) (by decide)) (by decide) rfl) (by decide) (by decide))) (by exact (ev_lk_st1 ev_lk_st1_self (by decide) rfl)) (by exact ev_lk_st1_self) (by exact (ev_l1 (ev_l1 (ev_lk_st1 (ev_l1 e33 (by decide) (by decide)) (by decide) rfl) (by decide) (by decide)) (by decide) (by decide))) (by exact (ev_l1 (ev_l1 ev_lk_st1_self (by decide) (by decide)) (by decide) (by decide))) (by exact (ev_l1 (ev_l1 (ev_l1 (ev_l1 e35 (by decide) (by decide)) (by decide) (by decide)) (by decide) (by decide)) (by decide) (by decide)))
            · intro c57
              refine ev_r_aload_n (pc := 408) (k := 0) (v := .ref 621) trivial (by decide +kernel) (by exact (ev_l1 (ev_l1 e27 (by decide) (by decide)) (by decide) (by decide))) ?_
              refine ev_r_iload_n (pc := 409) (k := 1) (v := Int32.ofInt a0) (by decide +kernel) (by exact (ev_l1 (ev_l1 e28 (by decide) (by decide)) (by decide) (by decide))) ?_
              refine ev_r_iload (pc := 410) (k := 11) (v := Int32.ofInt x25) (by decide +kernel) (by exact (ev_l1 ev_lk_st1_self (by decide) (by decide))) ?_
              refine ev_r_bipush (pc := 412) (k := 48) (by decide +kernel) (by decide +kernel) ?_
              refine ev_r_isub (pc := 414) (by decide +kernel) ?_
              intro x99 hx99
              refine ev_r_virt (pc := 415) (y := 751) (mi := 339) (na := 2) (k := 621) (as := [.int (Int32.ofInt a0), .int (Int32.ofInt x99)]) (rest := []) (encc := ev_oI) (Q := ev_bl) (fun x S1 h => jt_339 d (by omega) Q a0 x99 ha0 hx99 s37 x S1 h) (by exact ev_ob_621) (by decide +kernel) (by decide +kernel) (by decide +kernel) (by decide +kernel) rfl (by (try simp only [ev_sum, ev_nv_cat]); first | done | rfl) ?_
              intro x101 s100 hx101
              replace hx101 := ev_bl_rng hx101
              show ev_w _ _ _ _ _ [.int (Int32.ofInt x101)] _ _ _ _
              refine ev_r_istore (pc := 418) (k := 7) (by decide +kernel) (by decide +kernel) rfl ?_
              refine ev_r_iload (pc := 420) (k := 7) (v := Int32.ofInt x101) (by decide +kernel) (by exact ev_lk_st1_self) ?_
              refine ev_r_istore (pc := 422) (k := 6) (by decide +kernel) (by decide +kernel) rfl ?_
              refine ev_r_iconst (pc := 424) (k := 1) (by decide +kernel) ?_
              refine ev_r_istore (pc := 425) (k := 5) (by decide +kernel) (by decide +kernel) rfl ?_
              refine ev_r_iinc (pc := 427) (k := 8) (c := 2) (x := x38) (by decide +kernel) (by decide +kernel) (by exact (ev_l1 (ev_l1 (ev_l1 ev_lk_st1_self (by decide) (by decide)) (by decide) (by decide)) (by decide) (by decide))) (fun _ => rfl) ?_
              intro x102 hx102
              refine ev_r_goto (pc := 430) (o := 68) (t := 498) (by decide +kernel) (by decide +kernel) ?_
              exact hK498 x4 hx4 1 (by decide) x101 hx101 x101 hx101 x102 hx102 s100 _ (by exact (ev_l1 (ev_l1 (ev_l1 (ev_l1 (ev_l1 (ev_l1 e27 (by decide) (by decide)) (by decide) (by decide)) (by decide) (by decide)) (by decide) (by decide)) (by decide) (by decide)) (by decide) (by decide))) (by exact (ev_l1 (ev_l1 (ev_l1 (ev_l1 (ev_l1 (ev_l1 e28 (by decide) (by decide)) (by decide) (by decide)) (by decide) (by decide)) (by decide) (by decide)) (by decide) (by decide)) (by decide) (by decide))) (by exact (ev_l1 (ev_l1 (ev_l1 (ev_l1 (ev_l1 (ev_l1 e29 (by decide) (by decide)) (by decide) (by decide)) (by decide) (by decide)) (by decide) (by decide)) (by decide) (by decide)) (by decide) (by decide))) (by exact (ev_l1 (ev_lk_st1 (ev_l1 (ev_l1 (ev_l1 (ev_l1 e30 (by decide) (by decide)) (by decide) (by decide)) (by decide) (by decide)) (by decide) (by decide)) (by decide) rfl) (by decide) (by decide))) (by exact (ev_l1 ev_lk_st1_self (by decide) (by decide))) (by exact (ev_l1 (ev_l1 ev_lk_st1_self (by decide) (by decide)) (by decide) (by decide))) (by exact (ev_lk_st1 (ev_l1 (ev_l1 ev_lk_st1_self (by decide) (by decide)) (by decide) (by decide)) (by decide) rfl)) (by exact ev_lk_st1_self) (by exact (ev_l1 (ev_l1 (ev_l1 (ev_l1 (ev_l1 (ev_l1 e35 (by decide) (by decide)) (by decide) (by decide)) (by decide) (by decide)) (by decide) (by decide)) (by decide) (by decide)) (by decide) (by decide)))
          · intro c56
            refine ev_r_iinc (pc := 254) (k := 8) (c := 1) (x := x38) (by decide +kernel) (by decide +kernel) (by exact ev_lk_st1_self) (fun _ => rfl) ?_
            intro x103 hx103
            refine ev_r_iload (pc := 257) (k := 6) (v := Int32.ofInt x6) (by decide +kernel) (by exact (ev_l1 (ev_l1 (ev_l1 e32 (by decide) (by decide)) (by decide) (by decide)) (by decide) (by decide))) ?_
            refine ev_r_jn (Q := fun K => ∀ (x104 : Int) (hx104 : ev_rng x104), ∀ (s116 : ev_St) (w105 : List (Nat × Value)), ev_lk w105 0 = some (.ref 621) → ev_lk w105 1 = some (.int (Int32.ofInt a0)) → ev_lk w105 3 = some (.int (Int32.ofInt a2)) → ev_lk w105 4 = some (.int (Int32.ofInt x4)) → ev_lk w105 5 = some (.int (Int32.ofInt x5)) → ev_lk w105 6 = some (.int (Int32.ofInt x6)) → ev_lk w105 7 = some (.int (Int32.ofInt x7)) → ev_lk w105 8 = some (.int (Int32.ofInt x104)) → ev_lk w105 9 = some (.int (Int32.ofInt x9)) → ev_lk w105 11 = some (.int (Int32.ofInt x25)) → ev_w none (ev_Mof 340) d 311 w105 [] s116 (K x104 s116) ev_eU ev_PU) ?_ ?_
            · intro x104 hx104 s116 w105 e106 e107 e108 e109 e110 e111 e112 e113 e114 e115
              refine ev_r_iload (pc := 311) (k := 6) (v := Int32.ofInt x6) (by decide +kernel) (by exact e111) ?_
              refine ev_r_jn (Q := fun K => ∀ (s128 : ev_St) (w117 : List (Nat × Value)), ev_lk w117 0 = some (.ref 621) → ev_lk w117 1 = some (.int (Int32.ofInt a0)) → ev_lk w117 3 = some (.int (Int32.ofInt a2)) → ev_lk w117 4 = some (.int (Int32.ofInt x4)) → ev_lk w117 5 = some (.int (Int32.ofInt x5)) → ev_lk w117 6 = some (.int (Int32.ofInt x6)) → ev_lk w117 7 = some (.int (Int32.ofInt x7)) → ev_lk w117 8 = some (.int (Int32.ofInt x104)) → ev_lk w117 9 = some (.int (Int32.ofInt x9)) → ev_lk w117 11 = some (.int (Int32.ofInt x25)) → ev_w none (ev_Mof 340) d 358 w117 [] s128 (K  s128) ev_eU ev_PU) ?_ ?_
              · intro  s128 w117 e118 e119 e120 e121 e122 e123 e124 e125 e126 e127
                refine ev_r_iload (pc := 358) (k := 6) (v := Int32.ofInt x6) (by decide +kernel) (by exact e123) ?_
                refine ev_r_if (pc := 360) (q := .eq) (o := 138) (t := 498) (c := x6 = 0) (by decide +kernel) (ev_k_eq hx6 ev_rng0) (by decide +kernel) ?_ ?_
                · intro c129
                  exact hK498 x4 hx4 x5 hx5 x6 hx6 x7 hx7 x104 hx104 s128 _ (by exact e118) (by exact e119) (by exact e120) (by exact e121) (by exact e122) (by exact e123) (by exact e124) (by exact e125) (by exact e126)
                · intro c129
                  refine ev_r_iload (pc := 363) (k := 11) (v := Int32.ofInt x25) (by decide +kernel) (by exact e127) ?_
                  refine ev_r_bipush (pc := 365) (k := 110) (by decide +kernel) (by decide +kernel) ?_
                  refine ev_r_jn (Q := fun K => ∀ (s141 : ev_St) (w130 : List (Nat × Value)), ev_lk w130 0 = some (.ref 621) → ev_lk w130 1 = some (.int (Int32.ofInt a0)) → ev_lk w130 3 = some (.int (Int32.ofInt a2)) → ev_lk w130 4 = some (.int (Int32.ofInt x4)) → ev_lk w130 5 = some (.int (Int32.ofInt x5)) → ev_lk w130 6 = some (.int (Int32.ofInt x6)) → ev_lk w130 7 = some (.int (Int32.ofInt x7)) → ev_lk w130 8 = some (.int (Int32.ofInt x104)) → ev_lk w130 9 = some (.int (Int32.ofInt x9)) → ev_lk w130 11 = some (.int (Int32.ofInt x25)) → ev_w none (ev_Mof 340) d 378 w130 [] s141 (K  s141) ev_eU ev_PU) ?_ ?_
                  · intro  s141 w130 e131 e132 e133 e134 e135 e136 e137 e138 e139 e140
                    refine ev_r_aload_n (pc := 378) (k := 0) (v := .ref 621) trivial (by decide +kernel) (by exact e131) ?_
                    refine ev_r_iload (pc := 379) (k := 11) (v := Int32.ofInt x25) (by decide +kernel) (by exact e140) ?_
                    refine ev_r_bipush (pc := 381) (k := 110) (by decide +kernel) (by decide +kernel) ?_
                    refine ev_r_jn (Q := fun K => ∀ (x142 : Int) (hx142 : ev_rng x142), ∀ (s153 : ev_St) (w143 : List (Nat × Value)), ev_lk w143 0 = some (.ref 621) → ev_lk w143 1 = some (.int (Int32.ofInt a0)) → ev_lk w143 3 = some (.int (Int32.ofInt a2)) → ev_lk w143 4 = some (.int (Int32.ofInt x4)) → ev_lk w143 5 = some (.int (Int32.ofInt x5)) → ev_lk w143 6 = some (.int (Int32.ofInt x6)) → ev_lk w143 7 = some (.int (Int32.ofInt x7)) → ev_lk w143 8 = some (.int (Int32.ofInt x104)) → ev_lk w143 9 = some (.int (Int32.ofInt x9)) → ev_w none (ev_Mof 340) d 393 w143 [.int (Int32.ofInt x142), .ref 621] s153 (K x142 s153) ev_eU ev_PU) ?_ ?_
                    · intro x142 hx142 s153 w143 e144 e145 e146 e147 e148 e149 e150 e151 e152
                      refine ev_r_iload (pc := 393) (k := 4) (v := Int32.ofInt x4) (by decide +kernel) (by exact e147) ?_
                      refine ev_r_virt (pc := 395) (y := 754) (mi := 338) (na := 2) (k := 621) (as := [.int (Int32.ofInt x142), .int (Int32.ofInt x4)]) (rest := []) (encc := ev_oU) (Q := ev_PU) (fun x S1 h => jt_338 d (by omega) Q x142 x4 hx142 hx4 s153 x S1 h) (by exact ev_ob_621) (by decide +kernel) (by decide +kernel) (by decide +kernel) (by decide +kernel) rfl (by (try simp only [ev_sum, ev_nv_cat]); first | done | rfl) ?_
                      intro _ s154 _
                      show ev_w _ _ _ _ _ [] _ _ _ _
                      refine ev_r_goto (pc := 398) (o := 100) (t := 498) (by decide +kernel) (by decide +kernel) ?_
                      exact hK498 x4 hx4 x5 hx5 x6 hx6 x7 hx7 x104 hx104 s154 _ (by exact e144) (by exact e145) (by exact e146) (by exact e147) (by exact e148) (by exact e149) (by exact e150) (by exact e151) (by exact e152)
                    · intro K393 hK393
                      refine ev_r_icmp (pc := 383) (q := .ne) (o := 8) (t := 391) (c := x25 ≠ 110) (by decide +kernel) (ev_k_ne hx25 (by decide)) (by decide +kernel) ?_ ?_
                      · intro c155
                        refine ev_r_iload (pc := 391) (k := 11) (v := Int32.ofInt x25) (by decide +kernel) (by exact e140) ?_
                        exact hK393 x25 hx25 s141 _ (by exact e131) (by exact e132) (by exact e133) (by exact e134) (by exact e135) (by exact e136) (by exact e137) (by exact e138) (by exact e139)
                      · intro c155
                        refine ev_r_bipush (pc := 386) (k := 10) (by decide +kernel) (by decide +kernel) ?_
                        refine ev_r_goto (pc := 388) (o := 5) (t := 393) (by decide +kernel) (by decide +kernel) ?_
                        exact hK393 10 (by decide) s141 _ (by exact e131) (by exact e132) (by exact e133) (by exact e134) (by exact e135) (by exact e136) (by exact e137) (by exact e138) (by exact e139)
                  · intro K378 hK378
                    refine ev_r_icmp (pc := 367) (q := .eq) (o := 11) (t := 378) (c := x25 = 110) (by decide +kernel) (ev_k_eq hx25 (by decide)) (by decide +kernel) ?_ ?_
                    · intro c156
                      exact hK378  s128 _ (by exact e118) (by exact e119) (by exact e120) (by exact e121) (by exact e122) (by exact e123) (by exact e124) (by exact e125) (by exact e126) (by exact e127)
                    · intro c156
                      refine ev_r_iload (pc := 370) (k := 11) (v := Int32.ofInt x25) (by decide +kernel) (by exact e127) ?_
                      refine ev_r_stat (pc := 372) (y := 412) (kind := 2) (mi := 228) (na := 1) (as := [.int (Int32.ofInt x25)]) (rest := []) (encc := ev_oI) (Q := ev_bl) (fun x S1 h => jt_228 d (by omega) Q x25 hx25 s128 x S1 h) (Or.inl rfl) (by decide +kernel) (by decide +kernel) (by decide +kernel) (by decide +kernel) rfl (by (try simp only [ev_sum, ev_nv_cat]); first | done | rfl) ?_
                      intro x158 s157 hx158
                      replace hx158 := ev_bl_rng hx158
                      show ev_w _ _ _ _ _ [.int (Int32.ofInt x158)] _ _ _ _
                      refine ev_r_if (pc := 375) (q := .eq) (o := 123) (t := 498) (c := x158 = 0) (by decide +kernel) (ev_k_eq hx158 ev_rng0) (by decide +kernel) ?_ ?_
                      · intro c159
                        exact hK498 x4 hx4 x5 hx5 x6 hx6 x7 hx7 x104 hx104 s157 _ (by exact e118) (by exact e119) (by exact e120) (by exact e121) (by exact e122) (by exact e123) (by exact e124) (by exact e125) (by exact e126)
                      · intro c159
                        exact hK378  s157 _ (by exact e118) (by exact e119) (by exact e120) (by exact e121) (by exact e122) (by exact e123) (by exact e124) (by exact e125) (by exact e126) (by exact e127)
              · intro K358 hK358
                refine ev_r_if (pc := 313) (q := .eq) (o := 45) (t := 358) (c := x6 = 0) (by decide +kernel) (ev_k_eq hx6 ev_rng0) (by decide +kernel) ?_ ?_
                · intro c160
                  exact hK358  s116 _ (by exact e106) (by exact e107) (by exact e108) (by exact e109) (by exact e110) (by exact e111) (by exact e112) (by exact e113) (by exact e114) (by exact e115)
                · intro c160
                  refine ev_r_iload (pc := 316) (k := 11) (v := Int32.ofInt x25) (by decide +kernel) (by exact e115) ?_
                  refine ev_r_bipush (pc := 318) (k := 35) (by decide +kernel) (by decide +kernel) ?_
                  refine ev_r_icmp (pc := 320) (q := .ne) (o := 38) (t := 358) (c := x25 ≠ 35) (by decide +kernel) (ev_k_ne hx25 (by decide)) (by decide +kernel) ?_ ?_
                  · intro c161
                    exact hK358  s116 _ (by exact e106) (by exact e107) (by exact e108) (by exact e109) (by exact e110) (by exact e111) (by exact e112) (by exact e113) (by exact e114) (by exact e115)
                  · intro c161
                    refine ev_r_iload_n (pc := 323) (k := 3) (v := Int32.ofInt a2) (by decide +kernel) (by exact e108) ?_
                    refine ev_r_bipush (pc := 324) (k := 9) (by decide +kernel) (by decide +kernel) ?_
                    refine ev_r_jn (Q := fun K => ∀ (s172 : ev_St) (w162 : List (Nat × Value)), ev_lk w162 0 = some (.ref 621) → ev_lk w162 1 = some (.int (Int32.ofInt a0)) → ev_lk w162 3 = some (.int (Int32.ofInt a2)) → ev_lk w162 4 = some (.int (Int32.ofInt x4)) → ev_lk w162 5 = some (.int (Int32.ofInt x5)) → ev_lk w162 6 = some (.int (Int32.ofInt x6)) → ev_lk w162 7 = some (.int (Int32.ofInt x7)) → ev_lk w162 8 = some (.int (Int32.ofInt x104)) → ev_lk w162 9 = some (.int (Int32.ofInt x9)) → ev_w none (ev_Mof 340) d 342 w162 [] s172 (K  s172) ev_eU ev_PU) ?_ ?_
                    · intro  s172 w162 e163 e164 e165 e166 e167 e168 e169 e170 e171
                      refine ev_r_aload_n (pc := 342) (k := 0) (v := .ref 621) trivial (by decide +kernel) (by exact e163) ?_
                      refine ev_r_bipush (pc := 343) (k := 48) (by decide +kernel) (by decide +kernel) ?_
                      refine ev_r_iload_n (pc := 345) (k := 3) (v := Int32.ofInt a2) (by decide +kernel) (by exact e165) ?_
                      refine ev_r_bipush (pc := 346) (k := 10) (by decide +kernel) (by decide +kernel) ?_
                      refine ev_r_irem (pc := 348) (by decide) (by decide +kernel) ?_
                      intro x173 hx173
                      refine ev_r_iadd (pc := 349) (by decide +kernel) ?_
                      intro x174 hx174
                      refine ev_r_iload (pc := 350) (k := 4) (v := Int32.ofInt x4) (by decide +kernel) (by exact e166) ?_
                      refine ev_r_virt (pc := 352) (y := 754) (mi := 338) (na := 2) (k := 621) (as := [.int (Int32.ofInt x174), .int (Int32.ofInt x4)]) (rest := []) (encc := ev_oU) (Q := ev_PU) (fun x S1 h => jt_338 d (by omega) Q x174 x4 hx174 hx4 s172 x S1 h) (by exact ev_ob_621) (by decide +kernel) (by decide +kernel) (by decide +kernel) (by decide +kernel) rfl (by (try simp only [ev_sum, ev_nv_cat]); first | done | rfl) ?_
                      intro _ s175 _
                      show ev_w _ _ _ _ _ [] _ _ _ _
                      refine ev_r_goto (pc := 355) (o := 143) (t := 498) (by decide +kernel) (by decide +kernel) ?_
                      exact hK498 x4 hx4 x5 hx5 x6 hx6 x7 hx7 x104 hx104 s175 _ (by exact e163) (by exact e164) (by exact e165) (by exact e166) (by exact e167) (by exact e168) (by exact e169) (by exact e170) (by exact e171)
                    · intro K342 hK342
                      refine ev_r_icmp (pc := 326) (q := .le) (o := 16) (t := 342) (c := a2 ≤ 9) (by decide +kernel) (ev_k_le ha2 (by decide)) (by decide +kernel) ?_ ?_
                      · intro c176
                        exact hK342  s116 _ (by exact e106) (by exact e107) (by exact e108) (by exact e109) (by exact e110) (by exact e111) (by exact e112) (by exact e113) (by exact e114)
                      · intro c176
                        refine ev_r_aload_n (pc := 329) (k := 0) (v := .ref 621) trivial (by decide +kernel) (by exact e106) ?_
                        refine ev_r_bipush (pc := 330) (k := 48) (by decide +kernel) (by decide +kernel) ?_
                        refine ev_r_iload_n (pc := 332) (k := 3) (v := Int32.ofInt a2) (by decide +kernel) (by exact e108) ?_
                        refine ev_r_bipush (pc := 333) (k := 10) (by decide +kernel) (by decide +kernel) ?_
                        refine ev_r_idiv (pc := 335) (by decide) (by decide +kernel) ?_
                        intro x177 hx177
                        refine ev_r_iadd (pc := 336) (by decide +kernel) ?_
                        intro x178 hx178
                        refine ev_r_iload (pc := 337) (k := 4) (v := Int32.ofInt x4) (by decide +kernel) (by exact e109) ?_
                        refine ev_r_virt (pc := 339) (y := 754) (mi := 338) (na := 2) (k := 621) (as := [.int (Int32.ofInt x178), .int (Int32.ofInt x4)]) (rest := []) (encc := ev_oU) (Q := ev_PU) (fun x S1 h => jt_338 d (by omega) Q x178 x4 hx178 hx4 s116 x S1 h) (by exact ev_ob_621) (by decide +kernel) (by decide +kernel) (by decide +kernel) (by decide +kernel) rfl (by (try simp only [ev_sum, ev_nv_cat]); first | done | rfl) ?_
                        intro _ s179 _
                        show ev_w _ _ _ _ _ [] _ _ _ _
                        exact hK342  s179 _ (by exact e106) (by exact e107) (by exact e108) (by exact e109) (by exact e110) (by exact e111) (by exact e112) (by exact e113) (by exact e114)
            · intro K311 hK311
              refine ev_r_if (pc := 259) (q := .eq) (o := 52) (t := 311) (c := x6 = 0) (by decide +kernel) (ev_k_eq hx6 ev_rng0) (by decide +kernel) ?_ ?_
              · intro c180
                exact hK311 x103 hx103 s37 _ (by exact (ev_l1 (ev_l1 (ev_l1 e27 (by decide) (by decide)) (by decide) (by decide)) (by decide) (by decide))) (by exact (ev_l1 (ev_l1 (ev_l1 e28 (by decide) (by decide)) (by decide) (by decide)) (by decide) (by decide))) (by exact (ev_l1 (ev_l1 (ev_l1 e29 (by decide) (by decide)) (by decide) (by decide)) (by decide) (by decide))) (by exact (ev_l1 (ev_l1 (ev_l1 e30 (by decide) (by decide)) (by decide) (by decide)) (by decide) (by decide))) (by exact (ev_l1 (ev_l1 (ev_l1 e31 (by decide) (by decide)) (by decide) (by decide)) (by decide) (by decide))) (by exact (ev_l1 (ev_l1 (ev_l1 e32 (by decide) (by decide)) (by decide) (by decide)) (by decide) (by decide))) (by exact (ev_lk_st1 (ev_lk_st1 (ev_l1 e33 (by decide) (by decide)) (by decide) rfl) (by decide) rfl)) (by exact ev_lk_st1_self) (by exact (ev_l1 (ev_l1 (ev_l1 e35 (by decide) (by decide)) (by decide) (by decide)) (by decide) (by decide))) (by exact (ev_l1 (ev_l1 ev_lk_st1_self (by decide) (by decide)) (by decide) (by decide)))
              · intro c180
                refine ev_r_iload (pc := 262) (k := 11) (v := Int32.ofInt x25) (by decide +kernel) (by exact (ev_l1 (ev_l1 ev_lk_st1_self (by decide) (by decide)) (by decide) (by decide))) ?_
                refine ev_r_bipush (pc := 264) (k := 85) (by decide +kernel) (by decide +kernel) ?_
                refine ev_r_jn (Q := fun K => ∀ (s191 : ev_St) (w181 : List (Nat × Value)), ev_lk w181 0 = some (.ref 621) → ev_lk w181 1 = some (.int (Int32.ofInt a0)) → ev_lk w181 3 = some (.int (Int32.ofInt a2)) → ev_lk w181 5 = some (.int (Int32.ofInt x5)) → ev_lk w181 6 = some (.int (Int32.ofInt x6)) → ev_lk w181 7 = some (.int (Int32.ofInt x7)) → ev_lk w181 8 = some (.int (Int32.ofInt x103)) → ev_lk w181 9 = some (.int (Int32.ofInt x9)) → ev_lk w181 11 = some (.int (Int32.ofInt x25)) → ev_w none (ev_Mof 340) d 283 w181 [] s191 (K  s191) ev_eU ev_PU) ?_ ?_
                · intro  s191 w181 e182 e183 e184 e185 e186 e187 e188 e189 e190
                  refine ev_r_iload (pc := 283) (k := 11) (v := Int32.ofInt x25) (by decide +kernel) (by exact e190) ?_
                  refine ev_r_bipush (pc := 285) (k := 85) (by decide +kernel) (by decide +kernel) ?_
                  refine ev_r_jn (Q := fun K => ∀ (x192 : Int) (hx192 : ev_rng x192), ∀ (s202 : ev_St) (w193 : List (Nat × Value)), ev_lk w193 0 = some (.ref 621) → ev_lk w193 1 = some (.int (Int32.ofInt a0)) → ev_lk w193 3 = some (.int (Int32.ofInt a2)) → ev_lk w193 5 = some (.int (Int32.ofInt x5)) → ev_lk w193 6 = some (.int (Int32.ofInt x6)) → ev_lk w193 7 = some (.int (Int32.ofInt x7)) → ev_lk w193 8 = some (.int (Int32.ofInt x103)) → ev_lk w193 9 = some (.int (Int32.ofInt x9)) → ev_w none (ev_Mof 340) d 306 w193 [.int (Int32.ofInt x192)] s202 (K x192 s202) ev_eU ev_PU) ?_ ?_
                  · intro x192 hx192 s202 w193 e194 e195 e196 e197 e198 e199 e200 e201
                    refine ev_r_istore (pc := 306) (k := 4) (by decide +kernel) (by decide +kernel) rfl ?_
                    refine ev_r_goto (pc := 308) (o := 190) (t := 498) (by decide +kernel) (by decide +kernel) ?_
                    exact hK498 x192 hx192 x5 hx5 x6 hx6 x7 hx7 x103 hx103 s202 _ (by exact (ev_l1 e194 (by decide) (by decide))) (by exact (ev_l1 e195 (by decide) (by decide))) (by exact (ev_lk_st1 e196 (by decide) rfl)) (by exact ev_lk_st1_self) (by exact (ev_l1 e197 (by decide) (by decide))) (by exact (ev_l1 e198 (by decide) (by decide))) (by exact (ev_l1 e199 (by decide) (by decide))) (by exact (ev_l1 e200 (by decide) (by decide))) (by exact (ev_l1 e201 (by decide) (by decide)))
                  · intro K306 hK306
                    refine ev_r_icmp (pc := 287) (q := .ne) (o := 7) (t := 294) (c := x25 ≠ 85) (by decide +kernel) (ev_k_ne hx25 (by decide)) (by decide +kernel) ?_ ?_
                    · intro c203
                      refine ev_r_iload (pc := 294) (k := 11) (v := Int32.ofInt x25) (by decide +kernel) (by exact e190) ?_
                      refine ev_r_bipush (pc := 296) (k := 76) (by decide +kernel) (by decide +kernel) ?_
                      refine ev_r_icmp (pc := 298) (q := .ne) (o := 7) (t := 305) (c := x25 ≠ 76) (by decide +kernel) (ev_k_ne hx25 (by decide)) (by decide +kernel) ?_ ?_
                      · intro c204
                        refine ev_r_iconst (pc := 305) (k := 0) (by decide +kernel) ?_
                        exact hK306 0 (by decide) s191 _ (by exact e182) (by exact e183) (by exact e184) (by exact e185) (by exact e186) (by exact e187) (by exact e188) (by exact e189)
                      · intro c204
                        refine ev_r_iconst (pc := 301) (k := 2) (by decide +kernel) ?_
                        refine ev_r_goto (pc := 302) (o := 4) (t := 306) (by decide +kernel) (by decide +kernel) ?_
                        exact hK306 2 (by decide) s191 _ (by exact e182) (by exact e183) (by exact e184) (by exact e185) (by exact e186) (by exact e187) (by exact e188) (by exact e189)
                    · intro c203
                      refine ev_r_iconst (pc := 290) (k := 1) (by decide +kernel) ?_
                      refine ev_r_goto (pc := 291) (o := 15) (t := 306) (by decide +kernel) (by decide +kernel) ?_
                      exact hK306 1 (by decide) s191 _ (by exact e182) (by exact e183) (by exact e184) (by exact e185) (by exact e186) (by exact e187) (by exact e188) (by exact e189)
                · intro K283 hK283
                  refine ev_r_icmp (pc := 266) (q := .eq) (o := 17) (t := 283) (c := x25 = 85) (by decide +kernel) (ev_k_eq hx25 (by decide)) (by decide +kernel) ?_ ?_
                  · intro c205
                    exact hK283  s37 _ (by exact (ev_l1 (ev_l1 (ev_l1 e27 (by decide) (by decide)) (by decide) (by decide)) (by decide) (by decide))) (by exact (ev_l1 (ev_l1 (ev_l1 e28 (by decide) (by decide)) (by decide) (by decide)) (by decide) (by decide))) (by exact (ev_l1 (ev_l1 (ev_l1 e29 (by decide) (by decide)) (by decide) (by decide)) (by decide) (by decide))) (by exact (ev_l1 (ev_l1 (ev_l1 e31 (by decide) (by decide)) (by decide) (by decide)) (by decide) (by decide))) (by exact (ev_l1 (ev_l1 (ev_l1 e32 (by decide) (by decide)) (by decide) (by decide)) (by decide) (by decide))) (by exact (ev_lk_st1 (ev_lk_st1 (ev_l1 e33 (by decide) (by decide)) (by decide) rfl) (by decide) rfl)) (by exact ev_lk_st1_self) (by exact (ev_l1 (ev_l1 (ev_l1 e35 (by decide) (by decide)) (by decide) (by decide)) (by decide) (by decide))) (by exact (ev_l1 (ev_l1 ev_lk_st1_self (by decide) (by decide)) (by decide) (by decide)))
                  · intro c205
                    refine ev_r_iload (pc := 269) (k := 11) (v := Int32.ofInt x25) (by decide +kernel) (by exact (ev_l1 (ev_l1 ev_lk_st1_self (by decide) (by decide)) (by decide) (by decide))) ?_
                    refine ev_r_bipush (pc := 271) (k := 76) (by decide +kernel) (by decide +kernel) ?_
                    refine ev_r_icmp (pc := 273) (q := .eq) (o := 10) (t := 283) (c := x25 = 76) (by decide +kernel) (ev_k_eq hx25 (by decide)) (by decide +kernel) ?_ ?_
                    · intro c206
                      exact hK283  s37 _ (by exact (ev_l1 (ev_l1 (ev_l1 e27 (by decide) (by decide)) (by decide) (by decide)) (by decide) (by decide))) (by exact (ev_l1 (ev_l1 (ev_l1 e28 (by decide) (by decide)) (by decide) (by decide)) (by decide) (by decide))) (by exact (ev_l1 (ev_l1 (ev_l1 e29 (by decide) (by decide)) (by decide) (by decide)) (by decide) (by decide))) (by exact (ev_l1 (ev_l1 (ev_l1 e31 (by decide) (by decide)) (by decide) (by decide)) (by decide) (by decide))) (by exact (ev_l1 (ev_l1 (ev_l1 e32 (by decide) (by decide)) (by decide) (by decide)) (by decide) (by decide))) (by exact (ev_lk_st1 (ev_lk_st1 (ev_l1 e33 (by decide) (by decide)) (by decide) rfl) (by decide) rfl)) (by exact ev_lk_st1_self) (by exact (ev_l1 (ev_l1 (ev_l1 e35 (by decide) (by decide)) (by decide) (by decide)) (by decide) (by decide))) (by exact (ev_l1 (ev_l1 ev_lk_st1_self (by decide) (by decide)) (by decide) (by decide)))
                    · intro c206
                      refine ev_r_iload (pc := 276) (k := 11) (v := Int32.ofInt x25) (by decide +kernel) (by exact (ev_l1 (ev_l1 ev_lk_st1_self (by decide) (by decide)) (by decide) (by decide))) ?_
                      refine ev_r_bipush (pc := 278) (k := 69) (by decide +kernel) (by decide +kernel) ?_
                      refine ev_r_icmp (pc := 280) (q := .ne) (o := 31) (t := 311) (c := x25 ≠ 69) (by decide +kernel) (ev_k_ne hx25 (by decide)) (by decide +kernel) ?_ ?_
                      · intro c207
                        exact hK311 x103 hx103 s37 _ (by exact (ev_l1 (ev_l1 (ev_l1 e27 (by decide) (by decide)) (by decide) (by decide)) (by decide) (by decide))) (by exact (ev_l1 (ev_l1 (ev_l1 e28 (by decide) (by decide)) (by decide) (by decide)) (by decide) (by decide))) (by exact (ev_l1 (ev_l1 (ev_l1 e29 (by decide) (by decide)) (by decide) (by decide)) (by decide) (by decide))) (by exact (ev_l1 (ev_l1 (ev_l1 e30 (by decide) (by decide)) (by decide) (by decide)) (by decide) (by decide))) (by exact (ev_l1 (ev_l1 (ev_l1 e31 (by decide) (by decide)) (by decide) (by decide)) (by decide) (by decide))) (by exact (ev_l1 (ev_l1 (ev_l1 e32 (by decide) (by decide)) (by decide) (by decide)) (by decide) (by decide))) (by exact (ev_lk_st1 (ev_lk_st1 (ev_l1 e33 (by decide) (by decide)) (by decide) rfl) (by decide) rfl)) (by exact ev_lk_st1_self) (by exact (ev_l1 (ev_l1 (ev_l1 e35 (by decide) (by decide)) (by decide) (by decide)) (by decide) (by decide))) (by exact (ev_l1 (ev_l1 ev_lk_st1_self (by decide) (by decide)) (by decide) (by decide)))
                      · intro c207
                        exact hK283  s37 _ (by exact (ev_l1 (ev_l1 (ev_l1 e27 (by decide) (by decide)) (by decide) (by decide)) (by decide) (by decide))) (by exact (ev_l1 (ev_l1 (ev_l1 e28 (by decide) (by decide)) (by decide) (by decide)) (by decide) (by decide))) (by exact (ev_l1 (ev_l1 (ev_l1 e29 (by decide) (by decide)) (by decide) (by decide)) (by decide) (by decide))) (by exact (ev_l1 (ev_l1 (ev_l1 e31 (by decide) (by decide)) (by decide) (by decide)) (by decide) (by decide))) (by exact (ev_l1 (ev_l1 (ev_l1 e32 (by decide) (by decide)) (by decide) (by decide)) (by decide) (by decide))) (by exact (ev_lk_st1 (ev_lk_st1 (ev_l1 e33 (by decide) (by decide)) (by decide) rfl) (by decide) rfl)) (by exact ev_lk_st1_self) (by exact (ev_l1 (ev_l1 (ev_l1 e35 (by decide) (by decide)) (by decide) (by decide)) (by decide) (by decide))) (by exact (ev_l1 (ev_l1 ev_lk_st1_self (by decide) (by decide)) (by decide) (by decide)))
        · intro c55
          refine ev_r_iload (pc := 79) (k := 11) (v := Int32.ofInt x25) (by decide +kernel) (by exact (ev_l1 ev_lk_st1_self (by decide) (by decide))) ?_
          refine ev_r_stat (pc := 81) (y := 336) (kind := 2) (mi := 226) (na := 1) (as := [.int (Int32.ofInt x25)]) (rest := []) (encc := ev_oI) (Q := ev_bl) (fun x S1 h => jt_226 d (by omega) Q x25 hx25 s37 x S1 h) (Or.inl rfl) (by decide +kernel) (by decide +kernel) (by decide +kernel) (by decide +kernel) rfl (by (try simp only [ev_sum, ev_nv_cat]); first | done | rfl) ?_
          intro x209 s208 hx209
          replace hx209 := ev_bl_rng hx209
          show ev_w _ _ _ _ _ [.int (Int32.ofInt x209)] _ _ _ _
          refine ev_r_jn (Q := fun K => ∀ (x210 : Int) (hx210 : ev_rng x210), ∀ (s222 : ev_St) (w211 : List (Nat × Value)), ev_lk w211 0 = some (.ref 621) → ev_lk w211 1 = some (.int (Int32.ofInt a0)) → ev_lk w211 3 = some (.int (Int32.ofInt a2)) → ev_lk w211 4 = some (.int (Int32.ofInt x4)) → ev_lk w211 5 = some (.int (Int32.ofInt x5)) → ev_lk w211 6 = some (.int (Int32.ofInt x6)) → ev_lk w211 7 = some (.int (Int32.ofInt x7)) → ev_lk w211 8 = some (.int (Int32.ofInt x38)) → ev_lk w211 9 = some (.int (Int32.ofInt x9)) → ev_lk w211 11 = some (.int (Int32.ofInt x25)) → ev_w none (ev_Mof 340) d 117 w211 [.int (Int32.ofInt x210)] s222 (K x210 s222) ev_eU ev_PU) ?_ ?_
          · intro x210 hx210 s222 w211 e212 e213 e214 e215 e216 e217 e218 e219 e220 e221
            refine ev_r_istore (pc := 117) (k := 12) (by decide +kernel) (by decide +kernel) rfl ?_
            refine ev_r_iload (pc := 119) (k := 11) (v := Int32.ofInt x25) (by decide +kernel) (by exact (ev_lk_st1 e221 (by decide) rfl)) ?_
            refine ev_r_stat (pc := 121) (y := 336) (kind := 2) (mi := 226) (na := 1) (as := [.int (Int32.ofInt x25)]) (rest := []) (encc := ev_oI) (Q := ev_bl) (fun x S1 h => jt_226 d (by omega) Q x25 hx25 s222 x S1 h) (Or.inl rfl) (by decide +kernel) (by decide +kernel) (by decide +kernel) (by decide +kernel) rfl (by (try simp only [ev_sum, ev_nv_cat]); first | done | rfl) ?_
            intro x224 s223 hx224
            replace hx224 := ev_bl_rng hx224
            show ev_w _ _ _ _ _ [.int (Int32.ofInt x224)] _ _ _ _
            refine ev_r_jn (Q := fun K => ∀ (x225 : Int) (hx225 : ev_rng x225), ∀ (x226 : Int) (hx226 : ev_rng x226), ∀ (s239 : ev_St) (w227 : List (Nat × Value)), ev_lk w227 0 = some (.ref 621) → ev_lk w227 1 = some (.int (Int32.ofInt a0)) → ev_lk w227 3 = some (.int (Int32.ofInt a2)) → ev_lk w227 4 = some (.int (Int32.ofInt x4)) → ev_lk w227 5 = some (.int (Int32.ofInt x5)) → ev_lk w227 6 = some (.int (Int32.ofInt x6)) → ev_lk w227 7 = some (.int (Int32.ofInt x7)) → ev_lk w227 8 = some (.int (Int32.ofInt x38)) → ev_lk w227 9 = some (.int (Int32.ofInt x9)) → ev_lk w227 11 = some (.int (Int32.ofInt x25)) → ev_lk w227 12 = some (.int (Int32.ofInt x225)) → ev_w none (ev_Mof 340) d 137 w227 [.int (Int32.ofInt x226)] s239 (K x225 x226 s239) ev_eU ev_PU) ?_ ?_
            · intro x225 hx225 x226 hx226 s239 w227 e228 e229 e230 e231 e232 e233 e234 e235 e236 e237 e238
              refine ev_r_istore (pc := 137) (k := 13) (by decide +kernel) (by decide +kernel) rfl ?_
              refine ev_r_iload (pc := 139) (k := 8) (v := Int32.ofInt x38) (by decide +kernel) (by exact (ev_l1 e235 (by decide) (by decide))) ?_
              refine ev_r_iload (pc := 141) (k := 11) (v := Int32.ofInt x25) (by decide +kernel) (by exact (ev_l1 e237 (by decide) (by decide))) ?_
              refine ev_r_stat (pc := 143) (y := 336) (kind := 2) (mi := 226) (na := 1) (as := [.int (Int32.ofInt x25)]) (rest := [.int (Int32.ofInt x38)]) (encc := ev_oI) (Q := ev_bl) (fun x S1 h => jt_226 d (by omega) Q x25 hx25 s239 x S1 h) (Or.inl rfl) (by decide +kernel) (by decide +kernel) (by decide +kernel) (by decide +kernel) rfl (by (try simp only [ev_sum, ev_nv_cat]); first | done | rfl) ?_
              intro x241 s240 hx241
              replace hx241 := ev_bl_rng hx241
              show ev_w _ _ _ _ _ [.int (Int32.ofInt x241), .int (Int32.ofInt x38)] _ _ _ _
              refine ev_r_jn (Q := fun K => ∀ (x242 : Int) (hx242 : ev_rng x242), ∀ (x244 : Int) (hx244 : ev_rng x244), ∀ (x243 : Int) (hx243 : ev_rng x243), ∀ (s256 : ev_St) (w245 : List (Nat × Value)), ev_lk w245 0 = some (.ref 621) → ev_lk w245 1 = some (.int (Int32.ofInt a0)) → ev_lk w245 3 = some (.int (Int32.ofInt a2)) → ev_lk w245 4 = some (.int (Int32.ofInt x4)) → ev_lk w245 5 = some (.int (Int32.ofInt x5)) → ev_lk w245 6 = some (.int (Int32.ofInt x6)) → ev_lk w245 7 = some (.int (Int32.ofInt x7)) → ev_lk w245 9 = some (.int (Int32.ofInt x9)) → ev_lk w245 12 = some (.int (Int32.ofInt x225)) → ev_lk w245 13 = some (.int (Int32.ofInt x242)) → ev_w none (ev_Mof 340) d 154 w245 [.int (Int32.ofInt x244), .int (Int32.ofInt x243)] s256 (K x242 x244 x243 s256) ev_eU ev_PU) ?_ ?_
              · intro x242 hx242 x244 hx244 x243 hx243 s256 w245 e246 e247 e248 e249 e250 e251 e252 e253 e254 e255
                refine ev_r_iadd (pc := 154) (by decide +kernel) ?_
                intro x257 hx257
                refine ev_r_istore (pc := 155) (k := 8) (by decide +kernel) (by decide +kernel) rfl ?_
                refine ev_r_iload (pc := 157) (k := 13) (v := Int32.ofInt x242) (by decide +kernel) (by exact (ev_l1 e255 (by decide) (by decide))) ?_
                refine ev_r_jn (Q := fun K => ∀ (x258 : Int) (hx258 : ev_rng x258), ∀ (x259 : Int) (hx259 : ev_rng x259), ∀ (s272 : ev_St) (w260 : List (Nat × Value)), ev_lk w260 0 = some (.ref 621) → ev_lk w260 1 = some (.int (Int32.ofInt a0)) → ev_lk w260 3 = some (.int (Int32.ofInt a2)) → ev_lk w260 4 = some (.int (Int32.ofInt x4)) → ev_lk w260 5 = some (.int (Int32.ofInt x5)) → ev_lk w260 6 = some (.int (Int32.ofInt x6)) → ev_lk w260 7 = some (.int (Int32.ofInt x7)) → ev_lk w260 8 = some (.int (Int32.ofInt x258)) → ev_lk w260 9 = some (.int (Int32.ofInt x9)) → ev_lk w260 12 = some (.int (Int32.ofInt x225)) → ev_lk w260 13 = some (.int (Int32.ofInt x242)) → ev_w none (ev_Mof 340) d 191 w260 [.int (Int32.ofInt x259)] s272 (K x258 x259 s272) ev_eU ev_PU) ?_ ?_
                · intro x258 hx258 x259 hx259 s272 w260 e261 e262 e263 e264 e265 e266 e267 e268 e269 e270 e271
                  refine ev_r_istore (pc := 191) (k := 14) (by decide +kernel) (by decide +kernel) rfl ?_
                  exact jlt_340_193 d hd Q a0 a2 x4 x5 x6 x7 x9 x225 x242 x258 ha0 ha2 hx4 hx5 hx6 hx7 hx9 hx225 hx242 hx258 K498 hK498 Q x259 hx259 s272 _ (by exact (ev_l1 e261 (by decide) (by decide))) (by exact (ev_l1 e262 (by decide) (by decide))) (by exact (ev_l1 e263 (by decide) (by decide))) (by exact (ev_l1 e264 (by decide) (by decide))) (by exact (ev_l1 e265 (by decide) (by decide))) (by exact (ev_l1 e266 (by decide) (by decide))) (by exact (ev_l1 e267 (by decide) (by decide))) (by exact (ev_l1 e268 (by decide) (by decide))) (by exact (ev_l1 e269 (by decide) (by decide))) (by exact (ev_l1 e270 (by decide) (by decide))) (by exact (ev_lk_st1 e271 (by decide) rfl)) (by exact ev_lk_st1_self)
                · intro K191 hK191
                  refine ev_r_jn (Q := fun K => ∀ (x309 : Int) (hx309 : ev_rng x309), ∀ (s322 : ev_St) (w310 : List (Nat × Value)), ev_lk w310 0 = some (.ref 621) → ev_lk w310 1 = some (.int (Int32.ofInt a0)) → ev_lk w310 3 = some (.int (Int32.ofInt a2)) → ev_lk w310 4 = some (.int (Int32.ofInt x4)) → ev_lk w310 5 = some (.int (Int32.ofInt x5)) → ev_lk w310 6 = some (.int (Int32.ofInt x6)) → ev_lk w310 7 = some (.int (Int32.ofInt x7)) → ev_lk w310 8 = some (.int (Int32.ofInt x309)) → ev_lk w310 9 = some (.int (Int32.ofInt x9)) → ev_lk w310 12 = some (.int (Int32.ofInt x225)) → ev_lk w310 13 = some (.int (Int32.ofInt x242)) → ev_w none (ev_Mof 340) d 187 w310 [] s322 (K x309 s322) ev_eU ev_PU) ?_ ?_
                  · intro x309 hx309 s322 w310 e311 e312 e313 e314 e315 e316 e317 e318 e319 e320 e321
                    refine ev_r_aload_n (pc := 187) (k := 0) (v := .ref 621) trivial (by decide +kernel) (by exact e311) ?_
                    refine ev_r_getI (pc := 188) (y := 567) (ci := 13) (f := 73) (fin := 0) (by decide +kernel) (by decide +kernel) (by exact ev_ob_621) rfl ?_
                    intro x323 hx323
                    exact hK191 x309 hx309 x323 hx323 s322 _ (by exact e311) (by exact e312) (by exact e313) (by exact e314) (by exact e315) (by exact e316) (by exact e317) (by exact e318) (by exact e319) (by exact e320) (by exact e321)
                  · intro K187 hK187
                    refine ev_r_if (pc := 159) (q := .eq) (o := 28) (t := 187) (c := x242 = 0) (by decide +kernel) (ev_k_eq hx242 ev_rng0) (by decide +kernel) ?_ ?_
                    · intro c324
                      exact hK187 x257 hx257 s256 _ (by exact (ev_l1 e246 (by decide) (by decide))) (by exact (ev_l1 e247 (by decide) (by decide))) (by exact (ev_l1 e248 (by decide) (by decide))) (by exact (ev_l1 e249 (by decide) (by decide))) (by exact (ev_l1 e250 (by decide) (by decide))) (by exact (ev_l1 e251 (by decide) (by decide))) (by exact (ev_lk_st1 e252 (by decide) rfl)) (by exact ev_lk_st1_self) (by exact (ev_l1 e253 (by decide) (by decide))) (by exact (ev_l1 e254 (by decide) (by decide))) (by exact (ev_l1 e255 (by decide) (by decide)))
                    · intro c324
                      refine ev_r_iload (pc := 162) (k := 6) (v := Int32.ofInt x6) (by decide +kernel) (by exact (ev_l1 e251 (by decide) (by decide))) ?_
                      refine ev_r_if (pc := 164) (q := .eq) (o := 23) (t := 187) (c := x6 = 0) (by decide +kernel) (ev_k_eq hx6 ev_rng0) (by decide +kernel) ?_ ?_
                      · intro c325
                        exact hK187 x257 hx257 s256 _ (by exact (ev_l1 e246 (by decide) (by decide))) (by exact (ev_l1 e247 (by decide) (by decide))) (by exact (ev_l1 e248 (by decide) (by decide))) (by exact (ev_l1 e249 (by decide) (by decide))) (by exact (ev_l1 e250 (by decide) (by decide))) (by exact (ev_l1 e251 (by decide) (by decide))) (by exact (ev_lk_st1 e252 (by decide) rfl)) (by exact ev_lk_st1_self) (by exact (ev_l1 e253 (by decide) (by decide))) (by exact (ev_l1 e254 (by decide) (by decide))) (by exact (ev_l1 e255 (by decide) (by decide)))
                      · intro c325
                        refine ev_r_aload_n (pc := 167) (k := 0) (v := .ref 621) trivial (by decide +kernel) (by exact (ev_l1 e246 (by decide) (by decide))) ?_
                        refine ev_r_iload_n (pc := 168) (k := 1) (v := Int32.ofInt a0) (by decide +kernel) (by exact (ev_l1 e247 (by decide) (by decide))) ?_
                        refine ev_r_iload (pc := 169) (k := 12) (v := Int32.ofInt x225) (by decide +kernel) (by exact (ev_l1 e254 (by decide) (by decide))) ?_
                        refine ev_r_virt (pc := 171) (y := 751) (mi := 339) (na := 2) (k := 621) (as := [.int (Int32.ofInt a0), .int (Int32.ofInt x225)]) (rest := []) (encc := ev_oI) (Q := ev_bl) (fun x S1 h => jt_339 d (by omega) Q a0 x225 ha0 hx225 s256 x S1 h) (by exact ev_ob_621) (by decide +kernel) (by decide +kernel) (by decide +kernel) (by decide +kernel) rfl (by (try simp only [ev_sum, ev_nv_cat]); first | done | rfl) ?_
                        intro x327 s326 hx327
                        replace hx327 := ev_bl_rng hx327
                        show ev_w _ _ _ _ _ [.int (Int32.ofInt x327)] _ _ _ _
                        refine ev_r_if (pc := 174) (q := .eq) (o := 13) (t := 187) (c := x327 = 0) (by decide +kernel) (ev_k_eq hx327 ev_rng0) (by decide +kernel) ?_ ?_
                        · intro c328
                          exact hK187 x257 hx257 s326 _ (by exact (ev_l1 e246 (by decide) (by decide))) (by exact (ev_l1 e247 (by decide) (by decide))) (by exact (ev_l1 e248 (by decide) (by decide))) (by exact (ev_l1 e249 (by decide) (by decide))) (by exact (ev_l1 e250 (by decide) (by decide))) (by exact (ev_l1 e251 (by decide) (by decide))) (by exact (ev_lk_st1 e252 (by decide) rfl)) (by exact ev_lk_st1_self) (by exact (ev_l1 e253 (by decide) (by decide))) (by exact (ev_l1 e254 (by decide) (by decide))) (by exact (ev_l1 e255 (by decide) (by decide)))
                        · intro c328
                          refine ev_r_aload_n (pc := 177) (k := 0) (v := .ref 621) trivial (by decide +kernel) (by exact (ev_l1 e246 (by decide) (by decide))) ?_
                          refine ev_r_getC (pc := 178) (y := 184) (ci := 13) (f := 86) (fin := 1) (k' := 679) (by decide +kernel) (by decide +kernel) (by exact ev_ob_621) rfl rfl ?_
                          refine ev_r_iload (pc := 181) (k := 12) (v := Int32.ofInt x225) (by decide +kernel) (by exact (ev_l1 e254 (by decide) (by decide))) ?_
                          refine ev_r_iald (pc := 183) hx225 (by decide +kernel) (by exact ev_ab_679) ?_
                          intro x329 hx329
                          refine ev_r_goto (pc := 184) (o := 7) (t := 191) (by decide +kernel) (by decide +kernel) ?_
                          exact hK191 x257 hx257 x329 hx329 s326 _ (by exact (ev_l1 e246 (by decide) (by decide))) (by exact (ev_l1 e247 (by decide) (by decide))) (by exact (ev_l1 e248 (by decide) (by decide))) (by exact (ev_l1 e249 (by decide) (by decide))) (by exact (ev_l1 e250 (by decide) (by decide))) (by exact (ev_l1 e251 (by decide) (by decide))) (by exact (ev_lk_st1 e252 (by decide) rfl)) (by exact ev_lk_st1_self) (by exact (ev_l1 e253 (by decide) (by decide))) (by exact (ev_l1 e254 (by decide) (by decide))) (by exact (ev_l1 e255 (by decide) (by decide)))
              · intro K154 hK154
                refine ev_r_if (pc := 146) (q := .eq) (o := 7) (t := 153) (c := x241 = 0) (by decide +kernel) (ev_k_eq hx241 ev_rng0) (by decide +kernel) ?_ ?_
                · intro c330
                  refine ev_r_iconst (pc := 153) (k := 3) (by decide +kernel) ?_
                  exact hK154 x226 hx226 3 (by decide) x38 hx38 s240 _ (by exact (ev_l1 e228 (by decide) (by decide))) (by exact (ev_l1 e229 (by decide) (by decide))) (by exact (ev_l1 e230 (by decide) (by decide))) (by exact (ev_l1 e231 (by decide) (by decide))) (by exact (ev_l1 e232 (by decide) (by decide))) (by exact (ev_l1 e233 (by decide) (by decide))) (by exact (ev_l1 e234 (by decide) (by decide))) (by exact (ev_l1 e236 (by decide) (by decide))) (by exact (ev_lk_st1 e238 (by decide) rfl)) (by exact ev_lk_st1_self)
                · intro c330
                  refine ev_r_iconst (pc := 149) (k := 1) (by decide +kernel) ?_
                  refine ev_r_goto (pc := 150) (o := 4) (t := 154) (by decide +kernel) (by decide +kernel) ?_
                  exact hK154 x226 hx226 1 (by decide) x38 hx38 s240 _ (by exact (ev_l1 e228 (by decide) (by decide))) (by exact (ev_l1 e229 (by decide) (by decide))) (by exact (ev_l1 e230 (by decide) (by decide))) (by exact (ev_l1 e231 (by decide) (by decide))) (by exact (ev_l1 e232 (by decide) (by decide))) (by exact (ev_l1 e233 (by decide) (by decide))) (by exact (ev_l1 e234 (by decide) (by decide))) (by exact (ev_l1 e236 (by decide) (by decide))) (by exact (ev_lk_st1 e238 (by decide) rfl)) (by exact ev_lk_st1_self)
            · intro K137 hK137
              refine ev_r_jn (Q := fun K => ∀ (x331 : Int) (hx331 : ev_rng x331), ∀ (s344 : ev_St) (w332 : List (Nat × Value)), ev_lk w332 0 = some (.ref 621) → ev_lk w332 1 = some (.int (Int32.ofInt a0)) → ev_lk w332 3 = some (.int (Int32.ofInt a2)) → ev_lk w332 4 = some (.int (Int32.ofInt x4)) → ev_lk w332 5 = some (.int (Int32.ofInt x5)) → ev_lk w332 6 = some (.int (Int32.ofInt x6)) → ev_lk w332 7 = some (.int (Int32.ofInt x7)) → ev_lk w332 8 = some (.int (Int32.ofInt x38)) → ev_lk w332 9 = some (.int (Int32.ofInt x9)) → ev_lk w332 11 = some (.int (Int32.ofInt x25)) → ev_lk w332 12 = some (.int (Int32.ofInt x331)) → ev_w none (ev_Mof 340) d 132 w332 [] s344 (K x331 s344) ev_eU ev_PU) ?_ ?_
              · intro x331 hx331 s344 w332 e333 e334 e335 e336 e337 e338 e339 e340 e341 e342 e343
                refine ev_r_iconst (pc := 132) (k := 1) (by decide +kernel) ?_
                refine ev_r_goto (pc := 133) (o := 4) (t := 137) (by decide +kernel) (by decide +kernel) ?_
                exact hK137 x331 hx331 1 (by decide) s344 _ (by exact e333) (by exact e334) (by exact e335) (by exact e336) (by exact e337) (by exact e338) (by exact e339) (by exact e340) (by exact e341) (by exact e342) (by exact e343)
              · intro K132 hK132
                refine ev_r_if (pc := 124) (q := .ne) (o := 8) (t := 132) (c := x224 ≠ 0) (by decide +kernel) (ev_k_ne hx224 ev_rng0) (by decide +kernel) ?_ ?_
                · intro c345
                  exact hK132 x210 hx210 s223 _ (by exact (ev_l1 e212 (by decide) (by decide))) (by exact (ev_l1 e213 (by decide) (by decide))) (by exact (ev_l1 e214 (by decide) (by decide))) (by exact (ev_l1 e215 (by decide) (by decide))) (by exact (ev_l1 e216 (by decide) (by decide))) (by exact (ev_l1 e217 (by decide) (by decide))) (by exact (ev_l1 e218 (by decide) (by decide))) (by exact (ev_l1 e219 (by decide) (by decide))) (by exact (ev_l1 e220 (by decide) (by decide))) (by exact (ev_lk_st1 e221 (by decide) rfl)) (by exact ev_lk_st1_self)
                · intro c345
                  refine ev_r_iload (pc := 127) (k := 12) (v := Int32.ofInt x210) (by decide +kernel) (by exact ev_lk_st1_self) ?_
                  refine ev_r_if (pc := 129) (q := .le) (o := 7) (t := 136) (c := x210 ≤ 0) (by decide +kernel) (ev_k_le hx210 ev_rng0) (by decide +kernel) ?_ ?_
                  · intro c346
                    refine ev_r_iconst (pc := 136) (k := 0) (by decide +kernel) ?_
                    exact hK137 x210 hx210 0 (by decide) s223 _ (by exact (ev_l1 e212 (by decide) (by decide))) (by exact (ev_l1 e213 (by decide) (by decide))) (by exact (ev_l1 e214 (by decide) (by decide))) (by exact (ev_l1 e215 (by decide) (by decide))) (by exact (ev_l1 e216 (by decide) (by decide))) (by exact (ev_l1 e217 (by decide) (by decide))) (by exact (ev_l1 e218 (by decide) (by decide))) (by exact (ev_l1 e219 (by decide) (by decide))) (by exact (ev_l1 e220 (by decide) (by decide))) (by exact (ev_lk_st1 e221 (by decide) rfl)) (by exact ev_lk_st1_self)
                  · intro c346
                    exact hK132 x210 hx210 s223 _ (by exact (ev_l1 e212 (by decide) (by decide))) (by exact (ev_l1 e213 (by decide) (by decide))) (by exact (ev_l1 e214 (by decide) (by decide))) (by exact (ev_l1 e215 (by decide) (by decide))) (by exact (ev_l1 e216 (by decide) (by decide))) (by exact (ev_l1 e217 (by decide) (by decide))) (by exact (ev_l1 e218 (by decide) (by decide))) (by exact (ev_l1 e219 (by decide) (by decide))) (by exact (ev_l1 e220 (by decide) (by decide))) (by exact (ev_lk_st1 e221 (by decide) rfl)) (by exact ev_lk_st1_self)
          · intro K117 hK117
            refine ev_r_if (pc := 84) (q := .eq) (o := 11) (t := 95) (c := x209 = 0) (by decide +kernel) (ev_k_eq hx209 ev_rng0) (by decide +kernel) ?_ ?_
            · intro c347
              refine ev_r_aload_n (pc := 95) (k := 0) (v := .ref 621) trivial (by decide +kernel) (by exact (ev_l1 (ev_l1 e27 (by decide) (by decide)) (by decide) (by decide))) ?_
              refine ev_r_getC (pc := 96) (y := 59) (ci := 13) (f := 19) (fin := 1) (k' := 638) (by decide +kernel) (by decide +kernel) (by exact ev_ob_621) rfl rfl ?_
              refine ev_r_bipush (pc := 99) (k := 26) (by decide +kernel) (by decide +kernel) ?_
              refine ev_r_iload_n (pc := 101) (k := 1) (v := Int32.ofInt a0) (by decide +kernel) (by exact (ev_l1 (ev_l1 e28 (by decide) (by decide)) (by decide) (by decide))) ?_
              refine ev_r_imul (pc := 102) (by decide +kernel) ?_
              intro x348 hx348
              refine ev_r_aload_n (pc := 103) (k := 0) (v := .ref 621) trivial (by decide +kernel) (by exact (ev_l1 (ev_l1 e27 (by decide) (by decide)) (by decide) (by decide))) ?_
              refine ev_r_getC (pc := 104) (y := 249) (ci := 13) (f := 111) (fin := 1) (k' := 700) (by decide +kernel) (by decide +kernel) (by exact ev_ob_621) rfl rfl ?_
              refine ev_r_iload (pc := 107) (k := 8) (v := Int32.ofInt x38) (by decide +kernel) (by exact ev_lk_st1_self) ?_
              refine ev_r_iconst (pc := 109) (k := 1) (by decide +kernel) ?_
              refine ev_r_iadd (pc := 110) (by decide +kernel) ?_
              intro x349 hx349
              refine ev_r_iald (pc := 111) hx349 (by decide +kernel) (by exact ev_ab_700) ?_
              intro x350 hx350
              refine ev_r_iadd (pc := 112) (by decide +kernel) ?_
              intro x351 hx351
              refine ev_r_bipush (pc := 113) (k := 97) (by decide +kernel) (by decide +kernel) ?_
              refine ev_r_isub (pc := 115) (by decide +kernel) ?_
              intro x352 hx352
              refine ev_r_iald (pc := 116) hx352 (by decide +kernel) (by exact ev_ab_638) ?_
              intro x353 hx353
              exact hK117 x353 hx353 s208 _ (by exact (ev_l1 (ev_l1 e27 (by decide) (by decide)) (by decide) (by decide))) (by exact (ev_l1 (ev_l1 e28 (by decide) (by decide)) (by decide) (by decide))) (by exact (ev_l1 (ev_l1 e29 (by decide) (by decide)) (by decide) (by decide))) (by exact (ev_l1 (ev_l1 e30 (by decide) (by decide)) (by decide) (by decide))) (by exact (ev_l1 (ev_l1 e31 (by decide) (by decide)) (by decide) (by decide))) (by exact (ev_l1 (ev_l1 e32 (by decide) (by decide)) (by decide) (by decide))) (by exact (ev_lk_st1 (ev_l1 e33 (by decide) (by decide)) (by decide) rfl)) (by exact ev_lk_st1_self) (by exact (ev_l1 (ev_l1 e35 (by decide) (by decide)) (by decide) (by decide))) (by exact (ev_l1 ev_lk_st1_self (by decide) (by decide)))
            · intro c347
              refine ev_r_iload (pc := 87) (k := 11) (v := Int32.ofInt x25) (by decide +kernel) (by exact (ev_l1 ev_lk_st1_self (by decide) (by decide))) ?_
              refine ev_r_bipush (pc := 89) (k := 48) (by decide +kernel) (by decide +kernel) ?_
              refine ev_r_isub (pc := 91) (by decide +kernel) ?_
              intro x354 hx354
              refine ev_r_goto (pc := 92) (o := 25) (t := 117) (by decide +kernel) (by decide +kernel) ?_
              exact hK117 x354 hx354 s208 _ (by exact (ev_l1 (ev_l1 e27 (by decide) (by decide)) (by decide) (by decide))) (by exact (ev_l1 (ev_l1 e28 (by decide) (by decide)) (by decide) (by decide))) (by exact (ev_l1 (ev_l1 e29 (by decide) (by decide)) (by decide) (by decide))) (by exact (ev_l1 (ev_l1 e30 (by decide) (by decide)) (by decide) (by decide))) (by exact (ev_l1 (ev_l1 e31 (by decide) (by decide)) (by decide) (by decide))) (by exact (ev_l1 (ev_l1 e32 (by decide) (by decide)) (by decide) (by decide))) (by exact (ev_lk_st1 (ev_l1 e33 (by decide) (by decide)) (by decide) rfl)) (by exact ev_lk_st1_self) (by exact (ev_l1 (ev_l1 e35 (by decide) (by decide)) (by decide) (by decide))) (by exact (ev_l1 ev_lk_st1_self (by decide) (by decide)))
    · intro K67 hK67
      refine ev_r_icmp (pc := 51) (q := .ge) (o := 15) (t := 66) (c := x9 ≤ x23) (by decide +kernel) (ev_k_ge hx23 hx9) (by decide +kernel) ?_ ?_
      · intro c355
        refine ev_r_iconst (pc := 66) (k := -1) (by decide +kernel) ?_
        exact hK67 x22 hx22 ((-1)) (by decide) s20 _ (by exact (ev_l1 e11 (by decide) (by decide))) (by exact (ev_l1 e12 (by decide) (by decide))) (by exact (ev_l1 e13 (by decide) (by decide))) (by exact (ev_l1 e14 (by decide) (by decide))) (by exact (ev_l1 e15 (by decide) (by decide))) (by exact (ev_l1 e16 (by decide) (by decide))) (by exact (ev_l1 e17 (by decide) (by decide))) (by exact (ev_l1 e18 (by decide) (by decide))) (by exact (ev_lk_st1 e19 (by decide) rfl)) (by exact ev_lk_st1_self)
      · intro c355
        refine ev_r_aload_n (pc := 54) (k := 0) (v := .ref 621) trivial (by decide +kernel) (by exact (ev_l1 e11 (by decide) (by decide))) ?_
        refine ev_r_getC (pc := 55) (y := 249) (ci := 13) (f := 111) (fin := 1) (k' := 700) (by decide +kernel) (by decide +kernel) (by exact ev_ob_621) rfl rfl ?_
        refine ev_r_iload (pc := 58) (k := 8) (v := Int32.ofInt x8) (by decide +kernel) (by exact (ev_l1 e18 (by decide) (by decide))) ?_
        refine ev_r_iconst (pc := 60) (k := 1) (by decide +kernel) ?_
        refine ev_r_iadd (pc := 61) (by decide +kernel) ?_
        intro x356 hx356
        refine ev_r_iald (pc := 62) hx356 (by decide +kernel) (by exact ev_ab_700) ?_
        intro x357 hx357
        refine ev_r_goto (pc := 63) (o := 4) (t := 67) (by decide +kernel) (by decide +kernel) ?_
        exact hK67 x22 hx22 x357 hx357 s20 _ (by exact (ev_l1 e11 (by decide) (by decide))) (by exact (ev_l1 e12 (by decide) (by decide))) (by exact (ev_l1 e13 (by decide) (by decide))) (by exact (ev_l1 e14 (by decide) (by decide))) (by exact (ev_l1 e15 (by decide) (by decide))) (by exact (ev_l1 e16 (by decide) (by decide))) (by exact (ev_l1 e17 (by decide) (by decide))) (by exact (ev_l1 e18 (by decide) (by decide))) (by exact (ev_lk_st1 e19 (by decide) rfl)) (by exact ev_lk_st1_self)
theorem jlt_340_29 (d : Nat) (hd : 5 ≤ d + 1) (Q : Nat) (a0 : Int) (a2 : Int) (ha0 : ev_rng a0) (ha2 : ev_rng a2)   : ∀ q : Nat, ∀ (x4 : Int) (hx4 : ev_rng x4), ∀ (x5 : Int) (hx5 : ev_rng x5), ∀ (x6 : Int) (hx6 : ev_rng x6), ∀ (x7 : Int) (hx7 : ev_rng x7), ∀ (x8 : Int) (hx8 : ev_rng x8), ∀ (x9 : Int) (hx9 : ev_rng x9), ∀ (s20 : ev_St) (w10 : List (Nat × Value)), ev_lk w10 0 = some (.ref 621) → ev_lk w10 1 = some (.int (Int32.ofInt a0)) → ev_lk w10 3 = some (.int (Int32.ofInt a2)) → ev_lk w10 4 = some (.int (Int32.ofInt x4)) → ev_lk w10 5 = some (.int (Int32.ofInt x5)) → ev_lk w10 6 = some (.int (Int32.ofInt x6)) → ev_lk w10 7 = some (.int (Int32.ofInt x7)) → ev_lk w10 8 = some (.int (Int32.ofInt x8)) → ev_lk w10 9 = some (.int (Int32.ofInt x9)) → ev_w none (ev_Mof 340) d 29 w10 [] s20 (jl_340_29 Q a0 a2  q x4 x5 x6 x7 x8 x9 s20) ev_eU ev_PU := by
  intro q
  induction q with
  | zero =>
    intro x4 hx4 x5 hx5 x6 hx6 x7 hx7 x8 hx8 x9 hx9 s20 w10 e11 e12 e13 e14 e15 e16 e17 e18 e19
    exact ev_w_none
  | succ q ih => exact jbt_340_29 d hd Q a0 a2 ha0 ha2   _ ih
/-- MendBenchModel.fills(III)V -/
def jm_340 (Q : Nat) (a0 : Int) (a1 : Int) (a2 : Int) (S : ev_St) : Option ((Unit) × ev_St) := ev_ck (120 * a1) fun x1 => ev_if ((0 : Int) ≤ a1 ∧ a1 < (ev_aln 701 : Int)) (ev_b (S.1 701 (Int.toNat a1)) fun x2 => ev_ck (x1 + x2) fun x3 => jl_340_29 Q a0 a2  Q 0 0 1 1 x1 x3 S)
theorem jt_340 (d : Nat) (hd : 5 ≤ d) (Q : Nat) (a0 : Int) (a1 : Int) (a2 : Int) (ha0 : ev_rng a0) (ha1 : ev_rng a1) (ha2 : ev_rng a2) (S : ev_St) (x : Unit) (S' : ev_St) (hJ : jm_340 Q a0 a1 a2 S = some (x, S')) : ev_Ref d 340 [.ref 621, .int (Int32.ofInt a0), .int (Int32.ofInt a1), .int (Int32.ofInt a2)] S (ev_eU x) S' (ev_PU x) := by
  obtain ⟨d, rfl⟩ : ∃ e, d = e + 1 := ⟨d - 1, by omega⟩
  refine ev_ref_of (P := ev_PU) (lv := [(0, .ref 621), (1, .int (Int32.ofInt a0)), (2, .int (Int32.ofInt a1)), (3, .int (Int32.ofInt a2))]) (by decide +kernel) (by (try simp only [ev_sum, ev_nv_cat]); first | done | rfl) (by (try simp only [lv_args, ev_nv_cat]); first | done | rfl) ?_ x S' hJ
  unfold jm_340
  refine ev_r_iconst (pc := 0) (k := 0) (by decide +kernel) ?_
  refine ev_r_istore (pc := 1) (k := 4) (by decide +kernel) (by decide +kernel) rfl ?_
  refine ev_r_iconst (pc := 3) (k := 0) (by decide +kernel) ?_
  refine ev_r_istore (pc := 4) (k := 5) (by decide +kernel) (by decide +kernel) rfl ?_
  refine ev_r_iconst (pc := 6) (k := 1) (by decide +kernel) ?_
  refine ev_r_istore (pc := 7) (k := 6) (by decide +kernel) (by decide +kernel) rfl ?_
  refine ev_r_iconst (pc := 9) (k := 1) (by decide +kernel) ?_
  refine ev_r_istore (pc := 10) (k := 7) (by decide +kernel) (by decide +kernel) rfl ?_
  refine ev_r_bipush (pc := 12) (k := 120) (by decide +kernel) (by decide +kernel) ?_
  refine ev_r_iload_n (pc := 14) (k := 2) (v := Int32.ofInt a1) (by decide +kernel) (by exact (ev_l1 (ev_l1 (ev_l1 (ev_l1 (by rfl) (by decide) (by decide)) (by decide) (by decide)) (by decide) (by decide)) (by decide) (by decide))) ?_
  refine ev_r_imul (pc := 15) (by decide +kernel) ?_
  intro x1 hx1
  refine ev_r_istore (pc := 16) (k := 8) (by decide +kernel) (by decide +kernel) rfl ?_
  refine ev_r_iload (pc := 18) (k := 8) (v := Int32.ofInt x1) (by decide +kernel) (by exact ev_lk_st1_self) ?_
  refine ev_r_aload_n (pc := 20) (k := 0) (v := .ref 621) trivial (by decide +kernel) (by exact (ev_l1 (ev_l1 (ev_l1 (ev_l1 (ev_l1 (by rfl) (by decide) (by decide)) (by decide) (by decide)) (by decide) (by decide)) (by decide) (by decide)) (by decide) (by decide))) ?_
  refine ev_r_getC (pc := 21) (y := 252) (ci := 13) (f := 112) (fin := 1) (k' := 701) (by decide +kernel) (by decide +kernel) (by exact ev_ob_621) rfl rfl ?_
  refine ev_r_iload_n (pc := 24) (k := 2) (v := Int32.ofInt a1) (by decide +kernel) (by exact (ev_l1 (ev_l1 (ev_l1 (ev_l1 (ev_l1 (by rfl) (by decide) (by decide)) (by decide) (by decide)) (by decide) (by decide)) (by decide) (by decide)) (by decide) (by decide))) ?_
  refine ev_r_iald (pc := 25) ha1 (by decide +kernel) (by exact ev_ab_701) ?_
  intro x2 hx2
  refine ev_r_iadd (pc := 26) (by decide +kernel) ?_
  intro x3 hx3
  refine ev_r_istore (pc := 27) (k := 9) (by decide +kernel) (by decide +kernel) rfl ?_
  exact jlt_340_29 d hd Q a0 a2 ha0 ha2   Q 0 (by decide) 0 (by decide) 1 (by decide) 1 (by decide) x1 hx1 x3 hx3 S _ (by exact (ev_l1 (ev_l1 (ev_l1 (ev_l1 (ev_l1 (ev_l1 (by rfl) (by decide) (by decide)) (by decide) (by decide)) (by decide) (by decide)) (by decide) (by decide)) (by decide) (by decide)) (by decide) (by decide))) (by exact (ev_l1 (ev_l1 (ev_l1 (ev_l1 (ev_l1 (ev_l1 (by rfl) (by decide) (by decide)) (by decide) (by decide)) (by decide) (by decide)) (by decide) (by decide)) (by decide) (by decide)) (by decide) (by decide))) (by exact (ev_l1 (ev_l1 (ev_l1 (ev_l1 (ev_l1 (ev_lk_st1 (by rfl) (by decide) rfl) (by decide) (by decide)) (by decide) (by decide)) (by decide) (by decide)) (by decide) (by decide)) (by decide) (by decide))) (by exact (ev_l1 (ev_l1 (ev_l1 (ev_l1 (ev_lk_st1 ev_lk_st1_self (by decide) rfl) (by decide) (by decide)) (by decide) (by decide)) (by decide) (by decide)) (by decide) (by decide))) (by exact (ev_l1 (ev_l1 (ev_l1 (ev_lk_st1 ev_lk_st1_self (by decide) rfl) (by decide) (by decide)) (by decide) (by decide)) (by decide) (by decide))) (by exact (ev_l1 (ev_l1 (ev_lk_st1 ev_lk_st1_self (by decide) rfl) (by decide) (by decide)) (by decide) (by decide))) (by exact (ev_l1 (ev_lk_st1 ev_lk_st1_self (by decide) rfl) (by decide) (by decide))) (by exact (ev_lk_st1 ev_lk_st1_self (by decide) rfl)) (by exact ev_lk_st1_self)
def jb_341_171 (Q : Nat) (a0 : Int) (a1 : Int) (a2 : Int) (a4 : Int) (x4 : Int)  (K171 : Int → ev_St → Option ((Unit) × ev_St)) (x31 : Int) (s40 : ev_St) : Option ((Unit) × ev_St) := ev_b (s40.1 621 121) fun x41 => if x41 ≤ x31 then (some ((), s40)) else (ev_if ((0 : Int) ≤ x31 ∧ x31 < (ev_aln 710 : Int)) (ev_b (s40.1 710 (Int.toNat x31)) fun x43 => ev_if ((0 : Int) ≤ x31 ∧ x31 < (ev_aln 709 : Int)) (ev_b (s40.1 709 (Int.toNat x31)) fun x44 => ev_jn (fun (x45 : Int) (x46 : Int) (s56 : ev_St) => ev_jn (fun  (s65 : ev_St) => ev_ck (x31 + 1) fun x66 => K171 x66 s65) fun K273 => if x46 = 0 then (K273  s56) else (ev_jn (fun (x70 : Int) (x69 : Int) (r68 : Nat) (s79 : ev_St) => ev_if ((0 : Int) ≤ x69 ∧ x69 < (ev_aln r68 : Int)) (ev_b (ev_pI s79 r68 (Int.toNat x69) x70) fun s80 => K273  s80)) fun K272 => if x45 < a2 then (ev_if ((0 : Int) ≤ x31 ∧ x31 < (ev_aln 711 : Int)) (ev_b (s56.1 711 (Int.toNat x31)) fun x82 => if x82 = 0 then (K272 a1 x31 710 s56) else (ev_ck (a1 + a4) fun x84 => K272 x84 x31 710 s56))) else (ev_ck (x45 + x4) fun x85 => K272 x85 x31 710 s56))) fun K227 => ev_jn (fun (x86 : Int) (s96 : ev_St) => K227 x86 0 s96) fun K226 => if x44 ≠ a0 then (K226 x43 s40) else (if x43 < a1 then (K226 x43 s40) else (ev_jn (fun  (s108 : ev_St) => K227 x43 1 s108) fun K222 => if a1 < x43 then (K222  s40) else (ev_if ((0 : Int) ≤ x31 ∧ x31 < (ev_aln 711 : Int)) (ev_b (s40.1 711 (Int.toNat x31)) fun x110 => if x110 = 0 then (K226 x43 s40) else (K222  s40))))))))
def jl_341_171 (Q : Nat) (a0 : Int) (a1 : Int) (a2 : Int) (a4 : Int) (x4 : Int)  : Nat → Int → ev_St → Option ((Unit) × ev_St)
  | 0 => fun _ _ => none
  | q + 1 => jb_341_171 Q a0 a1 a2 a4 x4  (jl_341_171 Q a0 a1 a2 a4 x4  q)
theorem jbt_341_171 (d : Nat) (hd : 1 ≤ d + 1) (Q : Nat) (a0 : Int) (a1 : Int) (a2 : Int) (a4 : Int) (x4 : Int) (ha0 : ev_rng a0) (ha1 : ev_rng a1) (ha2 : ev_rng a2) (ha4 : ev_rng a4) (hx4 : ev_rng x4)   (K171 : Int → ev_St → Option ((Unit) × ev_St)) (hK171 : ∀ (x31 : Int) (hx31 : ev_rng x31), ∀ (s40 : ev_St) (w32 : List (Nat × Value)), ev_lk w32 0 = some (.ref 621) → ev_lk w32 1 = some (.int (Int32.ofInt a0)) → ev_lk w32 2 = some (.int (Int32.ofInt a1)) → ev_lk w32 3 = some (.int (Int32.ofInt a2)) → ev_lk w32 5 = some (.int (Int32.ofInt a4)) → ev_lk w32 6 = some (.int (Int32.ofInt x4)) → ev_lk w32 8 = some (.int (Int32.ofInt x31)) → ev_w none (ev_Mof 341) d 171 w32 [] s40 (K171 x31 s40) ev_eU ev_PU) : ∀ (x31 : Int) (hx31 : ev_rng x31), ∀ (s40 : ev_St) (w32 : List (Nat × Value)), ev_lk w32 0 = some (.ref 621) → ev_lk w32 1 = some (.int (Int32.ofInt a0)) → ev_lk w32 2 = some (.int (Int32.ofInt a1)) → ev_lk w32 3 = some (.int (Int32.ofInt a2)) → ev_lk w32 5 = some (.int (Int32.ofInt a4)) → ev_lk w32 6 = some (.int (Int32.ofInt x4)) → ev_lk w32 8 = some (.int (Int32.ofInt x31)) → ev_w none (ev_Mof 341) d 171 w32 [] s40 (jb_341_171 Q a0 a1 a2 a4 x4  K171 x31 s40) ev_eU ev_PU := by
  intro x31 hx31 s40 w32 e33 e34 e35 e36 e37 e38 e39
  unfold jb_341_171
  refine ev_r_iload (pc := 171) (k := 8) (v := Int32.ofInt x31) (by decide +kernel) (by exact e39) ?_
  refine ev_r_aload_n (pc := 173) (k := 0) (v := .ref 621) trivial (by decide +kernel) (by exact e33) ?_
  refine ev_r_getI (pc := 174) (y := 757) (ci := 13) (f := 121) (fin := 0) (by decide +kernel) (by decide +kernel) (by exact ev_ob_621) rfl ?_
  intro x41 hx41
  refine ev_r_icmp (pc := 177) (q := .ge) (o := 102) (t := 279) (c := x41 ≤ x31) (by decide +kernel) (ev_k_ge hx31 hx41) (by decide +kernel) ?_ ?_
  · intro c42
    exact ev_r_return (pc := 279) (x := ()) trivial (by decide +kernel) (by decide +kernel) rfl
  · intro c42
    refine ev_r_aload_n (pc := 180) (k := 0) (v := .ref 621) trivial (by decide +kernel) (by exact e33) ?_
    refine ev_r_getC (pc := 181) (y := 279) (ci := 13) (f := 123) (fin := 1) (k' := 710) (by decide +kernel) (by decide +kernel) (by exact ev_ob_621) rfl rfl ?_
    refine ev_r_iload (pc := 184) (k := 8) (v := Int32.ofInt x31) (by decide +kernel) (by exact e39) ?_
    refine ev_r_iald (pc := 186) hx31 (by decide +kernel) (by exact ev_ab_710) ?_
    intro x43 hx43
    refine ev_r_istore (pc := 187) (k := 9) (by decide +kernel) (by decide +kernel) rfl ?_
    refine ev_r_aload_n (pc := 189) (k := 0) (v := .ref 621) trivial (by decide +kernel) (by exact (ev_l1 e33 (by decide) (by decide))) ?_
    refine ev_r_getC (pc := 190) (y := 276) (ci := 13) (f := 122) (fin := 1) (k' := 709) (by decide +kernel) (by decide +kernel) (by exact ev_ob_621) rfl rfl ?_
    refine ev_r_iload (pc := 193) (k := 8) (v := Int32.ofInt x31) (by decide +kernel) (by exact (ev_lk_st1 e39 (by decide) rfl)) ?_
    refine ev_r_iald (pc := 195) hx31 (by decide +kernel) (by exact ev_ab_709) ?_
    intro x44 hx44
    refine ev_r_iload_n (pc := 196) (k := 1) (v := Int32.ofInt a0) (by decide +kernel) (by exact (ev_l1 e34 (by decide) (by decide))) ?_
    refine ev_r_jn (Q := fun K => ∀ (x45 : Int) (hx45 : ev_rng x45), ∀ (x46 : Int) (hx46 : ev_rng x46), ∀ (s56 : ev_St) (w47 : List (Nat × Value)), ev_lk w47 0 = some (.ref 621) → ev_lk w47 1 = some (.int (Int32.ofInt a0)) → ev_lk w47 2 = some (.int (Int32.ofInt a1)) → ev_lk w47 3 = some (.int (Int32.ofInt a2)) → ev_lk w47 5 = some (.int (Int32.ofInt a4)) → ev_lk w47 6 = some (.int (Int32.ofInt x4)) → ev_lk w47 8 = some (.int (Int32.ofInt x31)) → ev_lk w47 9 = some (.int (Int32.ofInt x45)) → ev_w none (ev_Mof 341) d 227 w47 [.int (Int32.ofInt x46)] s56 (K x45 x46 s56) ev_eU ev_PU) ?_ ?_
    · intro x45 hx45 x46 hx46 s56 w47 e48 e49 e50 e51 e52 e53 e54 e55
      refine ev_r_istore (pc := 227) (k := 10) (by decide +kernel) (by decide +kernel) rfl ?_
      refine ev_r_iload (pc := 229) (k := 10) (v := Int32.ofInt x46) (by decide +kernel) (by exact ev_lk_st1_self) ?_
      refine ev_r_jn (Q := fun K => ∀ (s65 : ev_St) (w57 : List (Nat × Value)), ev_lk w57 0 = some (.ref 621) → ev_lk w57 1 = some (.int (Int32.ofInt a0)) → ev_lk w57 2 = some (.int (Int32.ofInt a1)) → ev_lk w57 3 = some (.int (Int32.ofInt a2)) → ev_lk w57 5 = some (.int (Int32.ofInt a4)) → ev_lk w57 6 = some (.int (Int32.ofInt x4)) → ev_lk w57 8 = some (.int (Int32.ofInt x31)) → ev_w none (ev_Mof 341) d 273 w57 [] s65 (K  s65) ev_eU ev_PU) ?_ ?_
      · intro  s65 w57 e58 e59 e60 e61 e62 e63 e64
        refine ev_r_iinc (pc := 273) (k := 8) (c := 1) (x := x31) (by decide +kernel) (by decide +kernel) (by exact e64) (fun _ => rfl) ?_
        intro x66 hx66
        refine ev_r_goto (pc := 276) (o := (-105)) (t := 171) (by decide +kernel) (by decide +kernel) ?_
        exact hK171 x66 hx66 s65 _ (by exact (ev_l1 e58 (by decide) (by decide))) (by exact (ev_l1 e59 (by decide) (by decide))) (by exact (ev_l1 e60 (by decide) (by decide))) (by exact (ev_l1 e61 (by decide) (by decide))) (by exact (ev_l1 e62 (by decide) (by decide))) (by exact (ev_l1 e63 (by decide) (by decide))) (by exact ev_lk_st1_self)
      · intro K273 hK273
        refine ev_r_if (pc := 231) (q := .eq) (o := 42) (t := 273) (c := x46 = 0) (by decide +kernel) (ev_k_eq hx46 ev_rng0) (by decide +kernel) ?_ ?_
        · intro c67
          exact hK273  s56 _ (by exact (ev_l1 e48 (by decide) (by decide))) (by exact (ev_l1 e49 (by decide) (by decide))) (by exact (ev_l1 e50 (by decide) (by decide))) (by exact (ev_l1 e51 (by decide) (by decide))) (by exact (ev_l1 e52 (by decide) (by decide))) (by exact (ev_l1 e53 (by decide) (by decide))) (by exact (ev_l1 e54 (by decide) (by decide)))
        · intro c67
          refine ev_r_aload_n (pc := 234) (k := 0) (v := .ref 621) trivial (by decide +kernel) (by exact (ev_l1 e48 (by decide) (by decide))) ?_
          refine ev_r_getC (pc := 235) (y := 279) (ci := 13) (f := 123) (fin := 1) (k' := 710) (by decide +kernel) (by decide +kernel) (by exact ev_ob_621) rfl rfl ?_
          refine ev_r_iload (pc := 238) (k := 8) (v := Int32.ofInt x31) (by decide +kernel) (by exact (ev_l1 e54 (by decide) (by decide))) ?_
          refine ev_r_iload (pc := 240) (k := 9) (v := Int32.ofInt x45) (by decide +kernel) (by exact (ev_lk_st1 e55 (by decide) rfl)) ?_
          refine ev_r_iload_n (pc := 242) (k := 3) (v := Int32.ofInt a2) (by decide +kernel) (by exact (ev_l1 e51 (by decide) (by decide))) ?_
          refine ev_r_jn (Q := fun K => ∀ (x70 : Int) (hx70 : ev_rng x70), ∀ (x69 : Int) (hx69 : ev_rng x69), ∀ (r68 : Nat) (hr68 : ev_isAb r68 1 .int = true), ∀ (s79 : ev_St) (w71 : List (Nat × Value)), ev_lk w71 0 = some (.ref 621) → ev_lk w71 1 = some (.int (Int32.ofInt a0)) → ev_lk w71 2 = some (.int (Int32.ofInt a1)) → ev_lk w71 3 = some (.int (Int32.ofInt a2)) → ev_lk w71 5 = some (.int (Int32.ofInt a4)) → ev_lk w71 6 = some (.int (Int32.ofInt x4)) → ev_lk w71 8 = some (.int (Int32.ofInt x31)) → ev_w none (ev_Mof 341) d 272 w71 [.int (Int32.ofInt x70), .int (Int32.ofInt x69), .ref r68] s79 (K x70 x69 r68 s79) ev_eU ev_PU) ?_ ?_
          · intro x70 hx70 x69 hx69 r68 hr68 s79 w71 e72 e73 e74 e75 e76 e77 e78
            refine ev_r_iast (pc := 272) hx70 hx69 (by decide +kernel) (by exact hr68) ?_
            intro s80
            exact hK273  s80 _ (by exact e72) (by exact e73) (by exact e74) (by exact e75) (by exact e76) (by exact e77) (by exact e78)
          · intro K272 hK272
            refine ev_r_icmp (pc := 243) (q := .lt) (o := 11) (t := 254) (c := x45 < a2) (by decide +kernel) (ev_k_lt hx45 ha2) (by decide +kernel) ?_ ?_
            · intro c81
              refine ev_r_aload_n (pc := 254) (k := 0) (v := .ref 621) trivial (by decide +kernel) (by exact (ev_l1 e48 (by decide) (by decide))) ?_
              refine ev_r_getC (pc := 255) (y := 282) (ci := 13) (f := 124) (fin := 1) (k' := 711) (by decide +kernel) (by decide +kernel) (by exact ev_ob_621) rfl rfl ?_
              refine ev_r_iload (pc := 258) (k := 8) (v := Int32.ofInt x31) (by decide +kernel) (by exact (ev_l1 e54 (by decide) (by decide))) ?_
              refine ev_r_bald (pc := 260) (ty := .boolean) (Or.inr rfl) hx31 (by decide +kernel) (by exact ev_ab_711) ?_
              intro x82 hx82
              refine ev_r_if (pc := 261) (q := .eq) (o := 10) (t := 271) (c := x82 = 0) (by decide +kernel) (ev_k_eq hx82 ev_rng0) (by decide +kernel) ?_ ?_
              · intro c83
                refine ev_r_iload_n (pc := 271) (k := 2) (v := Int32.ofInt a1) (by decide +kernel) (by exact (ev_l1 e50 (by decide) (by decide))) ?_
                exact hK272 a1 ha1 x31 hx31 710 ev_ab_710 s56 _ (by exact (ev_l1 e48 (by decide) (by decide))) (by exact (ev_l1 e49 (by decide) (by decide))) (by exact (ev_l1 e50 (by decide) (by decide))) (by exact (ev_l1 e51 (by decide) (by decide))) (by exact (ev_l1 e52 (by decide) (by decide))) (by exact (ev_l1 e53 (by decide) (by decide))) (by exact (ev_l1 e54 (by decide) (by decide)))
              · intro c83
                refine ev_r_iload_n (pc := 264) (k := 2) (v := Int32.ofInt a1) (by decide +kernel) (by exact (ev_l1 e50 (by decide) (by decide))) ?_
                refine ev_r_iload (pc := 265) (k := 5) (v := Int32.ofInt a4) (by decide +kernel) (by exact (ev_l1 e52 (by decide) (by decide))) ?_
                refine ev_r_iadd (pc := 267) (by decide +kernel) ?_
                intro x84 hx84
                refine ev_r_goto (pc := 268) (o := 4) (t := 272) (by decide +kernel) (by decide +kernel) ?_
                exact hK272 x84 hx84 x31 hx31 710 ev_ab_710 s56 _ (by exact (ev_l1 e48 (by decide) (by decide))) (by exact (ev_l1 e49 (by decide) (by decide))) (by exact (ev_l1 e50 (by decide) (by decide))) (by exact (ev_l1 e51 (by decide) (by decide))) (by exact (ev_l1 e52 (by decide) (by decide))) (by exact (ev_l1 e53 (by decide) (by decide))) (by exact (ev_l1 e54 (by decide) (by decide)))
            · intro c81
              refine ev_r_iload (pc := 246) (k := 9) (v := Int32.ofInt x45) (by decide +kernel) (by exact (ev_lk_st1 e55 (by decide) rfl)) ?_
              refine ev_r_iload (pc := 248) (k := 6) (v := Int32.ofInt x4) (by decide +kernel) (by exact (ev_l1 e53 (by decide) (by decide))) ?_
              refine ev_r_iadd (pc := 250) (by decide +kernel) ?_
              intro x85 hx85
              refine ev_r_goto (pc := 251) (o := 21) (t := 272) (by decide +kernel) (by decide +kernel) ?_
              exact hK272 x85 hx85 x31 hx31 710 ev_ab_710 s56 _ (by exact (ev_l1 e48 (by decide) (by decide))) (by exact (ev_l1 e49 (by decide) (by decide))) (by exact (ev_l1 e50 (by decide) (by decide))) (by exact (ev_l1 e51 (by decide) (by decide))) (by exact (ev_l1 e52 (by decide) (by decide))) (by exact (ev_l1 e53 (by decide) (by decide))) (by exact (ev_l1 e54 (by decide) (by decide)))
    · intro K227 hK227
      refine ev_r_jn (Q := fun K => ∀ (x86 : Int) (hx86 : ev_rng x86), ∀ (s96 : ev_St) (w87 : List (Nat × Value)), ev_lk w87 0 = some (.ref 621) → ev_lk w87 1 = some (.int (Int32.ofInt a0)) → ev_lk w87 2 = some (.int (Int32.ofInt a1)) → ev_lk w87 3 = some (.int (Int32.ofInt a2)) → ev_lk w87 5 = some (.int (Int32.ofInt a4)) → ev_lk w87 6 = some (.int (Int32.ofInt x4)) → ev_lk w87 8 = some (.int (Int32.ofInt x31)) → ev_lk w87 9 = some (.int (Int32.ofInt x86)) → ev_w none (ev_Mof 341) d 226 w87 [] s96 (K x86 s96) ev_eU ev_PU) ?_ ?_
      · intro x86 hx86 s96 w87 e88 e89 e90 e91 e92 e93 e94 e95
        refine ev_r_iconst (pc := 226) (k := 0) (by decide +kernel) ?_
        exact hK227 x86 hx86 0 (by decide) s96 _ (by exact e88) (by exact e89) (by exact e90) (by exact e91) (by exact e92) (by exact e93) (by exact e94) (by exact e95)
      · intro K226 hK226
        refine ev_r_icmp (pc := 197) (q := .ne) (o := 29) (t := 226) (c := x44 ≠ a0) (by decide +kernel) (ev_k_ne hx44 ha0) (by decide +kernel) ?_ ?_
        · intro c97
          exact hK226 x43 hx43 s40 _ (by exact (ev_l1 e33 (by decide) (by decide))) (by exact (ev_l1 e34 (by decide) (by decide))) (by exact (ev_l1 e35 (by decide) (by decide))) (by exact (ev_l1 e36 (by decide) (by decide))) (by exact (ev_l1 e37 (by decide) (by decide))) (by exact (ev_l1 e38 (by decide) (by decide))) (by exact (ev_lk_st1 e39 (by decide) rfl)) (by exact ev_lk_st1_self)
        · intro c97
          refine ev_r_iload (pc := 200) (k := 9) (v := Int32.ofInt x43) (by decide +kernel) (by exact ev_lk_st1_self) ?_
          refine ev_r_iload_n (pc := 202) (k := 2) (v := Int32.ofInt a1) (by decide +kernel) (by exact (ev_l1 e35 (by decide) (by decide))) ?_
          refine ev_r_icmp (pc := 203) (q := .lt) (o := 23) (t := 226) (c := x43 < a1) (by decide +kernel) (ev_k_lt hx43 ha1) (by decide +kernel) ?_ ?_
          · intro c98
            exact hK226 x43 hx43 s40 _ (by exact (ev_l1 e33 (by decide) (by decide))) (by exact (ev_l1 e34 (by decide) (by decide))) (by exact (ev_l1 e35 (by decide) (by decide))) (by exact (ev_l1 e36 (by decide) (by decide))) (by exact (ev_l1 e37 (by decide) (by decide))) (by exact (ev_l1 e38 (by decide) (by decide))) (by exact (ev_lk_st1 e39 (by decide) rfl)) (by exact ev_lk_st1_self)
          · intro c98
            refine ev_r_iload (pc := 206) (k := 9) (v := Int32.ofInt x43) (by decide +kernel) (by exact ev_lk_st1_self) ?_
            refine ev_r_iload_n (pc := 208) (k := 2) (v := Int32.ofInt a1) (by decide +kernel) (by exact (ev_l1 e35 (by decide) (by decide))) ?_
            refine ev_r_jn (Q := fun K => ∀ (s108 : ev_St) (w99 : List (Nat × Value)), ev_lk w99 0 = some (.ref 621) → ev_lk w99 1 = some (.int (Int32.ofInt a0)) → ev_lk w99 2 = some (.int (Int32.ofInt a1)) → ev_lk w99 3 = some (.int (Int32.ofInt a2)) → ev_lk w99 5 = some (.int (Int32.ofInt a4)) → ev_lk w99 6 = some (.int (Int32.ofInt x4)) → ev_lk w99 8 = some (.int (Int32.ofInt x31)) → ev_lk w99 9 = some (.int (Int32.ofInt x43)) → ev_w none (ev_Mof 341) d 222 w99 [] s108 (K  s108) ev_eU ev_PU) ?_ ?_
            · intro  s108 w99 e100 e101 e102 e103 e104 e105 e106 e107
              refine ev_r_iconst (pc := 222) (k := 1) (by decide +kernel) ?_
              refine ev_r_goto (pc := 223) (o := 4) (t := 227) (by decide +kernel) (by decide +kernel) ?_
              exact hK227 x43 hx43 1 (by decide) s108 _ (by exact e100) (by exact e101) (by exact e102) (by exact e103) (by exact e104) (by exact e105) (by exact e106) (by exact e107)
            · intro K222 hK222
              refine ev_r_icmp (pc := 209) (q := .gt) (o := 13) (t := 222) (c := a1 < x43) (by decide +kernel) (ev_k_gt hx43 ha1) (by decide +kernel) ?_ ?_
              · intro c109
                exact hK222  s40 _ (by exact (ev_l1 e33 (by decide) (by decide))) (by exact (ev_l1 e34 (by decide) (by decide))) (by exact (ev_l1 e35 (by decide) (by decide))) (by exact (ev_l1 e36 (by decide) (by decide))) (by exact (ev_l1 e37 (by decide) (by decide))) (by exact (ev_l1 e38 (by decide) (by decide))) (by exact (ev_lk_st1 e39 (by decide) rfl)) (by exact ev_lk_st1_self)
              · intro c109
                refine ev_r_aload_n (pc := 212) (k := 0) (v := .ref 621) trivial (by decide +kernel) (by exact (ev_l1 e33 (by decide) (by decide))) ?_
                refine ev_r_getC (pc := 213) (y := 282) (ci := 13) (f := 124) (fin := 1) (k' := 711) (by decide +kernel) (by decide +kernel) (by exact ev_ob_621) rfl rfl ?_
                refine ev_r_iload (pc := 216) (k := 8) (v := Int32.ofInt x31) (by decide +kernel) (by exact (ev_lk_st1 e39 (by decide) rfl)) ?_
                refine ev_r_bald (pc := 218) (ty := .boolean) (Or.inr rfl) hx31 (by decide +kernel) (by exact ev_ab_711) ?_
                intro x110 hx110
                refine ev_r_if (pc := 219) (q := .eq) (o := 7) (t := 226) (c := x110 = 0) (by decide +kernel) (ev_k_eq hx110 ev_rng0) (by decide +kernel) ?_ ?_
                · intro c111
                  exact hK226 x43 hx43 s40 _ (by exact (ev_l1 e33 (by decide) (by decide))) (by exact (ev_l1 e34 (by decide) (by decide))) (by exact (ev_l1 e35 (by decide) (by decide))) (by exact (ev_l1 e36 (by decide) (by decide))) (by exact (ev_l1 e37 (by decide) (by decide))) (by exact (ev_l1 e38 (by decide) (by decide))) (by exact (ev_lk_st1 e39 (by decide) rfl)) (by exact ev_lk_st1_self)
                · intro c111
                  exact hK222  s40 _ (by exact (ev_l1 e33 (by decide) (by decide))) (by exact (ev_l1 e34 (by decide) (by decide))) (by exact (ev_l1 e35 (by decide) (by decide))) (by exact (ev_l1 e36 (by decide) (by decide))) (by exact (ev_l1 e37 (by decide) (by decide))) (by exact (ev_l1 e38 (by decide) (by decide))) (by exact (ev_lk_st1 e39 (by decide) rfl)) (by exact ev_lk_st1_self)
theorem jlt_341_171 (d : Nat) (hd : 1 ≤ d + 1) (Q : Nat) (a0 : Int) (a1 : Int) (a2 : Int) (a4 : Int) (x4 : Int) (ha0 : ev_rng a0) (ha1 : ev_rng a1) (ha2 : ev_rng a2) (ha4 : ev_rng a4) (hx4 : ev_rng x4)   : ∀ q : Nat, ∀ (x31 : Int) (hx31 : ev_rng x31), ∀ (s40 : ev_St) (w32 : List (Nat × Value)), ev_lk w32 0 = some (.ref 621) → ev_lk w32 1 = some (.int (Int32.ofInt a0)) → ev_lk w32 2 = some (.int (Int32.ofInt a1)) → ev_lk w32 3 = some (.int (Int32.ofInt a2)) → ev_lk w32 5 = some (.int (Int32.ofInt a4)) → ev_lk w32 6 = some (.int (Int32.ofInt x4)) → ev_lk w32 8 = some (.int (Int32.ofInt x31)) → ev_w none (ev_Mof 341) d 171 w32 [] s40 (jl_341_171 Q a0 a1 a2 a4 x4  q x31 s40) ev_eU ev_PU := by
  intro q
  induction q with
  | zero =>
    intro x31 hx31 s40 w32 e33 e34 e35 e36 e37 e38 e39
    exact ev_w_none
  | succ q ih => exact jbt_341_171 d hd Q a0 a1 a2 a4 x4 ha0 ha1 ha2 ha4 hx4   _ ih
def jb_341_119 (Q : Nat) (a0 : Int) (a1 : Int) (a2 : Int) (a3 : Int) (a4 : Int) (x4 : Int) (x5 : Int)  (K119 : Int → ev_St → Option ((Unit) × ev_St)) (x16 : Int) (s27 : ev_St) : Option ((Unit) × ev_St) := if a4 ≤ x16 then (ev_ck (x5 + x4) fun x29 => ev_if ((0 : Int) ≤ a0 ∧ a0 < (ev_aln 707 : Int)) (ev_b (ev_pI s27 707 (Int.toNat a0) x29) fun s30 => jl_341_171 Q a0 a1 a2 a4 x4  Q 0 s30)) else (ev_ck (200 * a0) fun x112 => ev_ck (x112 + a1) fun x113 => ev_ck (x113 + x16) fun x114 => ev_ck (a3 + x16) fun x115 => ev_if ((0 : Int) ≤ x115 ∧ x115 < (ev_aln 713 : Int)) (ev_b (s27.1 713 (Int.toNat x115)) fun x116 => ev_if ((0 : Int) ≤ x114 ∧ x114 < (ev_aln 708 : Int)) (ev_b (ev_pI s27 708 (Int.toNat x114) x116) fun s117 => ev_ck (x16 + 1) fun x118 => K119 x118 s117)))
def jl_341_119 (Q : Nat) (a0 : Int) (a1 : Int) (a2 : Int) (a3 : Int) (a4 : Int) (x4 : Int) (x5 : Int)  : Nat → Int → ev_St → Option ((Unit) × ev_St)
  | 0 => fun _ _ => none
  | q + 1 => jb_341_119 Q a0 a1 a2 a3 a4 x4 x5  (jl_341_119 Q a0 a1 a2 a3 a4 x4 x5  q)
theorem jbt_341_119 (d : Nat) (hd : 1 ≤ d + 1) (Q : Nat) (a0 : Int) (a1 : Int) (a2 : Int) (a3 : Int) (a4 : Int) (x4 : Int) (x5 : Int) (ha0 : ev_rng a0) (ha1 : ev_rng a1) (ha2 : ev_rng a2) (ha3 : ev_rng a3) (ha4 : ev_rng a4) (hx4 : ev_rng x4) (hx5 : ev_rng x5)   (K119 : Int → ev_St → Option ((Unit) × ev_St)) (hK119 : ∀ (x16 : Int) (hx16 : ev_rng x16), ∀ (s27 : ev_St) (w17 : List (Nat × Value)), ev_lk w17 0 = some (.ref 621) → ev_lk w17 1 = some (.int (Int32.ofInt a0)) → ev_lk w17 2 = some (.int (Int32.ofInt a1)) → ev_lk w17 3 = some (.int (Int32.ofInt a2)) → ev_lk w17 4 = some (.int (Int32.ofInt a3)) → ev_lk w17 5 = some (.int (Int32.ofInt a4)) → ev_lk w17 6 = some (.int (Int32.ofInt x4)) → ev_lk w17 7 = some (.int (Int32.ofInt x5)) → ev_lk w17 8 = some (.int (Int32.ofInt x16)) → ev_w none (ev_Mof 341) d 119 w17 [] s27 (K119 x16 s27) ev_eU ev_PU) : ∀ (x16 : Int) (hx16 : ev_rng x16), ∀ (s27 : ev_St) (w17 : List (Nat × Value)), ev_lk w17 0 = some (.ref 621) → ev_lk w17 1 = some (.int (Int32.ofInt a0)) → ev_lk w17 2 = some (.int (Int32.ofInt a1)) → ev_lk w17 3 = some (.int (Int32.ofInt a2)) → ev_lk w17 4 = some (.int (Int32.ofInt a3)) → ev_lk w17 5 = some (.int (Int32.ofInt a4)) → ev_lk w17 6 = some (.int (Int32.ofInt x4)) → ev_lk w17 7 = some (.int (Int32.ofInt x5)) → ev_lk w17 8 = some (.int (Int32.ofInt x16)) → ev_w none (ev_Mof 341) d 119 w17 [] s27 (jb_341_119 Q a0 a1 a2 a3 a4 x4 x5  K119 x16 s27) ev_eU ev_PU := by
  intro x16 hx16 s27 w17 e18 e19 e20 e21 e22 e23 e24 e25 e26
  unfold jb_341_119
  refine ev_r_iload (pc := 119) (k := 8) (v := Int32.ofInt x16) (by decide +kernel) (by exact e26) ?_
  refine ev_r_iload (pc := 121) (k := 5) (v := Int32.ofInt a4) (by decide +kernel) (by exact e23) ?_
  refine ev_r_icmp (pc := 123) (q := .ge) (o := 34) (t := 157) (c := a4 ≤ x16) (by decide +kernel) (ev_k_ge hx16 ha4) (by decide +kernel) ?_ ?_
  · intro c28
    refine ev_r_aload_n (pc := 157) (k := 0) (v := .ref 621) trivial (by decide +kernel) (by exact e18) ?_
    refine ev_r_getC (pc := 158) (y := 270) (ci := 13) (f := 119) (fin := 1) (k' := 707) (by decide +kernel) (by decide +kernel) (by exact ev_ob_621) rfl rfl ?_
    refine ev_r_iload_n (pc := 161) (k := 1) (v := Int32.ofInt a0) (by decide +kernel) (by exact e19) ?_
    refine ev_r_iload (pc := 162) (k := 7) (v := Int32.ofInt x5) (by decide +kernel) (by exact e25) ?_
    refine ev_r_iload (pc := 164) (k := 6) (v := Int32.ofInt x4) (by decide +kernel) (by exact e24) ?_
    refine ev_r_iadd (pc := 166) (by decide +kernel) ?_
    intro x29 hx29
    refine ev_r_iast (pc := 167) hx29 ha0 (by decide +kernel) (by exact ev_ab_707) ?_
    intro s30
    refine ev_r_iconst (pc := 168) (k := 0) (by decide +kernel) ?_
    refine ev_r_istore (pc := 169) (k := 8) (by decide +kernel) (by decide +kernel) rfl ?_
    exact jlt_341_171 d hd Q a0 a1 a2 a4 x4 ha0 ha1 ha2 ha4 hx4   Q 0 (by decide) s30 _ (by exact (ev_l1 e18 (by decide) (by decide))) (by exact (ev_l1 e19 (by decide) (by decide))) (by exact (ev_l1 e20 (by decide) (by decide))) (by exact (ev_l1 e21 (by decide) (by decide))) (by exact (ev_l1 e23 (by decide) (by decide))) (by exact (ev_l1 e24 (by decide) (by decide))) (by exact ev_lk_st1_self)
  · intro c28
    refine ev_r_aload_n (pc := 126) (k := 0) (v := .ref 621) trivial (by decide +kernel) (by exact e18) ?_
    refine ev_r_getC (pc := 127) (y := 273) (ci := 13) (f := 120) (fin := 1) (k' := 708) (by decide +kernel) (by decide +kernel) (by exact ev_ob_621) rfl rfl ?_
    refine ev_r_sipush (pc := 130) (k := 200) (by decide +kernel) (by decide +kernel) ?_
    refine ev_r_iload_n (pc := 133) (k := 1) (v := Int32.ofInt a0) (by decide +kernel) (by exact e19) ?_
    refine ev_r_imul (pc := 134) (by decide +kernel) ?_
    intro x112 hx112
    refine ev_r_iload_n (pc := 135) (k := 2) (v := Int32.ofInt a1) (by decide +kernel) (by exact e20) ?_
    refine ev_r_iadd (pc := 136) (by decide +kernel) ?_
    intro x113 hx113
    refine ev_r_iload (pc := 137) (k := 8) (v := Int32.ofInt x16) (by decide +kernel) (by exact e26) ?_
    refine ev_r_iadd (pc := 139) (by decide +kernel) ?_
    intro x114 hx114
    refine ev_r_aload_n (pc := 140) (k := 0) (v := .ref 621) trivial (by decide +kernel) (by exact e18) ?_
    refine ev_r_getC (pc := 141) (y := 290) (ci := 13) (f := 129) (fin := 1) (k' := 713) (by decide +kernel) (by decide +kernel) (by exact ev_ob_621) rfl rfl ?_
    refine ev_r_iload (pc := 144) (k := 4) (v := Int32.ofInt a3) (by decide +kernel) (by exact e22) ?_
    refine ev_r_iload (pc := 146) (k := 8) (v := Int32.ofInt x16) (by decide +kernel) (by exact e26) ?_
    refine ev_r_iadd (pc := 148) (by decide +kernel) ?_
    intro x115 hx115
    refine ev_r_bald (pc := 149) (ty := .byte) (Or.inl rfl) hx115 (by decide +kernel) (by exact ev_ab_713) ?_
    intro x116 hx116
    refine ev_r_iast (pc := 150) hx116 hx114 (by decide +kernel) (by exact ev_ab_708) ?_
    intro s117
    refine ev_r_iinc (pc := 151) (k := 8) (c := 1) (x := x16) (by decide +kernel) (by decide +kernel) (by exact e26) (fun _ => rfl) ?_
    intro x118 hx118
    refine ev_r_goto (pc := 154) (o := (-35)) (t := 119) (by decide +kernel) (by decide +kernel) ?_
    exact hK119 x118 hx118 s117 _ (by exact (ev_l1 e18 (by decide) (by decide))) (by exact (ev_l1 e19 (by decide) (by decide))) (by exact (ev_l1 e20 (by decide) (by decide))) (by exact (ev_l1 e21 (by decide) (by decide))) (by exact (ev_l1 e22 (by decide) (by decide))) (by exact (ev_l1 e23 (by decide) (by decide))) (by exact (ev_l1 e24 (by decide) (by decide))) (by exact (ev_lk_st1 e25 (by decide) rfl)) (by exact ev_lk_st1_self)
theorem jlt_341_119 (d : Nat) (hd : 1 ≤ d + 1) (Q : Nat) (a0 : Int) (a1 : Int) (a2 : Int) (a3 : Int) (a4 : Int) (x4 : Int) (x5 : Int) (ha0 : ev_rng a0) (ha1 : ev_rng a1) (ha2 : ev_rng a2) (ha3 : ev_rng a3) (ha4 : ev_rng a4) (hx4 : ev_rng x4) (hx5 : ev_rng x5)   : ∀ q : Nat, ∀ (x16 : Int) (hx16 : ev_rng x16), ∀ (s27 : ev_St) (w17 : List (Nat × Value)), ev_lk w17 0 = some (.ref 621) → ev_lk w17 1 = some (.int (Int32.ofInt a0)) → ev_lk w17 2 = some (.int (Int32.ofInt a1)) → ev_lk w17 3 = some (.int (Int32.ofInt a2)) → ev_lk w17 4 = some (.int (Int32.ofInt a3)) → ev_lk w17 5 = some (.int (Int32.ofInt a4)) → ev_lk w17 6 = some (.int (Int32.ofInt x4)) → ev_lk w17 7 = some (.int (Int32.ofInt x5)) → ev_lk w17 8 = some (.int (Int32.ofInt x16)) → ev_w none (ev_Mof 341) d 119 w17 [] s27 (jl_341_119 Q a0 a1 a2 a3 a4 x4 x5  q x16 s27) ev_eU ev_PU := by
  intro q
  induction q with
  | zero =>
    intro x16 hx16 s27 w17 e18 e19 e20 e21 e22 e23 e24 e25 e26
    exact ev_w_none
  | succ q ih => exact jbt_341_119 d hd Q a0 a1 a2 a3 a4 x4 x5 ha0 ha1 ha2 ha3 ha4 hx4 hx5   _ ih
def jb_341_74 (Q : Nat) (a0 : Int) (a1 : Int) (a2 : Int) (a3 : Int) (a4 : Int) (x2 : Int) (x3 : Int) (K116 : Int → Int → ev_St → Option ((Unit) × ev_St)) (K74 : Int → ev_St → Option ((Unit) × ev_St)) (x120 : Int) (s131 : ev_St) : Option ((Unit) × ev_St) := if x3 ≤ x120 then (K116 x2 x3 s131) else (ev_ck (200 * a0) fun x133 => ev_ck (x133 + x120) fun x134 => ev_ck (x134 + x2) fun x135 => ev_ck (200 * a0) fun x136 => ev_ck (x136 + x120) fun x137 => ev_if ((0 : Int) ≤ x137 ∧ x137 < (ev_aln 708 : Int)) (ev_b (s131.1 708 (Int.toNat x137)) fun x138 => ev_if ((0 : Int) ≤ x135 ∧ x135 < (ev_aln 708 : Int)) (ev_b (ev_pI s131 708 (Int.toNat x135) x138) fun s139 => ev_ck (x120 + 1) fun x140 => K74 x140 s139)))
def jl_341_74 (Q : Nat) (a0 : Int) (a1 : Int) (a2 : Int) (a3 : Int) (a4 : Int) (x2 : Int) (x3 : Int) (K116 : Int → Int → ev_St → Option ((Unit) × ev_St)) : Nat → Int → ev_St → Option ((Unit) × ev_St)
  | 0 => fun _ _ => none
  | q + 1 => jb_341_74 Q a0 a1 a2 a3 a4 x2 x3 K116 (jl_341_74 Q a0 a1 a2 a3 a4 x2 x3 K116 q)
theorem jbt_341_74 (d : Nat) (hd : 1 ≤ d + 1) (Q : Nat) (a0 : Int) (a1 : Int) (a2 : Int) (a3 : Int) (a4 : Int) (x2 : Int) (x3 : Int) (ha0 : ev_rng a0) (ha1 : ev_rng a1) (ha2 : ev_rng a2) (ha3 : ev_rng a3) (ha4 : ev_rng a4) (hx2 : ev_rng x2) (hx3 : ev_rng x3) (K116 : Int → Int → ev_St → Option ((Unit) × ev_St)) (hK116 : ∀ (x4 : Int) (hx4 : ev_rng x4), ∀ (x5 : Int) (hx5 : ev_rng x5), ∀ (s15 : ev_St) (w6 : List (Nat × Value)), ev_lk w6 0 = some (.ref 621) → ev_lk w6 1 = some (.int (Int32.ofInt a0)) → ev_lk w6 2 = some (.int (Int32.ofInt a1)) → ev_lk w6 3 = some (.int (Int32.ofInt a2)) → ev_lk w6 4 = some (.int (Int32.ofInt a3)) → ev_lk w6 5 = some (.int (Int32.ofInt a4)) → ev_lk w6 6 = some (.int (Int32.ofInt x4)) → ev_lk w6 7 = some (.int (Int32.ofInt x5)) → ev_w none (ev_Mof 341) d 116 w6 [] s15 (K116 x4 x5 s15) ev_eU ev_PU) (K74 : Int → ev_St → Option ((Unit) × ev_St)) (hK74 : ∀ (x120 : Int) (hx120 : ev_rng x120), ∀ (s131 : ev_St) (w121 : List (Nat × Value)), ev_lk w121 0 = some (.ref 621) → ev_lk w121 1 = some (.int (Int32.ofInt a0)) → ev_lk w121 2 = some (.int (Int32.ofInt a1)) → ev_lk w121 3 = some (.int (Int32.ofInt a2)) → ev_lk w121 4 = some (.int (Int32.ofInt a3)) → ev_lk w121 5 = some (.int (Int32.ofInt a4)) → ev_lk w121 6 = some (.int (Int32.ofInt x2)) → ev_lk w121 7 = some (.int (Int32.ofInt x3)) → ev_lk w121 8 = some (.int (Int32.ofInt x120)) → ev_w none (ev_Mof 341) d 74 w121 [] s131 (K74 x120 s131) ev_eU ev_PU) : ∀ (x120 : Int) (hx120 : ev_rng x120), ∀ (s131 : ev_St) (w121 : List (Nat × Value)), ev_lk w121 0 = some (.ref 621) → ev_lk w121 1 = some (.int (Int32.ofInt a0)) → ev_lk w121 2 = some (.int (Int32.ofInt a1)) → ev_lk w121 3 = some (.int (Int32.ofInt a2)) → ev_lk w121 4 = some (.int (Int32.ofInt a3)) → ev_lk w121 5 = some (.int (Int32.ofInt a4)) → ev_lk w121 6 = some (.int (Int32.ofInt x2)) → ev_lk w121 7 = some (.int (Int32.ofInt x3)) → ev_lk w121 8 = some (.int (Int32.ofInt x120)) → ev_w none (ev_Mof 341) d 74 w121 [] s131 (jb_341_74 Q a0 a1 a2 a3 a4 x2 x3 K116 K74 x120 s131) ev_eU ev_PU := by
  intro x120 hx120 s131 w121 e122 e123 e124 e125 e126 e127 e128 e129 e130
  unfold jb_341_74
  refine ev_r_iload (pc := 74) (k := 8) (v := Int32.ofInt x120) (by decide +kernel) (by exact e130) ?_
  refine ev_r_iload (pc := 76) (k := 7) (v := Int32.ofInt x3) (by decide +kernel) (by exact e129) ?_
  refine ev_r_icmp (pc := 78) (q := .ge) (o := 38) (t := 116) (c := x3 ≤ x120) (by decide +kernel) (ev_k_ge hx120 hx3) (by decide +kernel) ?_ ?_
  · intro c132
    exact hK116 x2 hx2 x3 hx3 s131 _ (by exact e122) (by exact e123) (by exact e124) (by exact e125) (by exact e126) (by exact e127) (by exact e128) (by exact e129)
  · intro c132
    refine ev_r_aload_n (pc := 81) (k := 0) (v := .ref 621) trivial (by decide +kernel) (by exact e122) ?_
    refine ev_r_getC (pc := 82) (y := 273) (ci := 13) (f := 120) (fin := 1) (k' := 708) (by decide +kernel) (by decide +kernel) (by exact ev_ob_621) rfl rfl ?_
    refine ev_r_sipush (pc := 85) (k := 200) (by decide +kernel) (by decide +kernel) ?_
    refine ev_r_iload_n (pc := 88) (k := 1) (v := Int32.ofInt a0) (by decide +kernel) (by exact e123) ?_
    refine ev_r_imul (pc := 89) (by decide +kernel) ?_
    intro x133 hx133
    refine ev_r_iload (pc := 90) (k := 8) (v := Int32.ofInt x120) (by decide +kernel) (by exact e130) ?_
    refine ev_r_iadd (pc := 92) (by decide +kernel) ?_
    intro x134 hx134
    refine ev_r_iload (pc := 93) (k := 6) (v := Int32.ofInt x2) (by decide +kernel) (by exact e128) ?_
    refine ev_r_iadd (pc := 95) (by decide +kernel) ?_
    intro x135 hx135
    refine ev_r_aload_n (pc := 96) (k := 0) (v := .ref 621) trivial (by decide +kernel) (by exact e122) ?_
    refine ev_r_getC (pc := 97) (y := 273) (ci := 13) (f := 120) (fin := 1) (k' := 708) (by decide +kernel) (by decide +kernel) (by exact ev_ob_621) rfl rfl ?_
    refine ev_r_sipush (pc := 100) (k := 200) (by decide +kernel) (by decide +kernel) ?_
    refine ev_r_iload_n (pc := 103) (k := 1) (v := Int32.ofInt a0) (by decide +kernel) (by exact e123) ?_
    refine ev_r_imul (pc := 104) (by decide +kernel) ?_
    intro x136 hx136
    refine ev_r_iload (pc := 105) (k := 8) (v := Int32.ofInt x120) (by decide +kernel) (by exact e130) ?_
    refine ev_r_iadd (pc := 107) (by decide +kernel) ?_
    intro x137 hx137
    refine ev_r_iald (pc := 108) hx137 (by decide +kernel) (by exact ev_ab_708) ?_
    intro x138 hx138
    refine ev_r_iast (pc := 109) hx138 hx135 (by decide +kernel) (by exact ev_ab_708) ?_
    intro s139
    refine ev_r_iinc (pc := 110) (k := 8) (c := 1) (x := x120) (by decide +kernel) (by decide +kernel) (by exact e130) (fun _ => rfl) ?_
    intro x140 hx140
    refine ev_r_goto (pc := 113) (o := (-39)) (t := 74) (by decide +kernel) (by decide +kernel) ?_
    exact hK74 x140 hx140 s139 _ (by exact (ev_l1 e122 (by decide) (by decide))) (by exact (ev_l1 e123 (by decide) (by decide))) (by exact (ev_l1 e124 (by decide) (by decide))) (by exact (ev_l1 e125 (by decide) (by decide))) (by exact (ev_l1 e126 (by decide) (by decide))) (by exact (ev_l1 e127 (by decide) (by decide))) (by exact (ev_l1 e128 (by decide) (by decide))) (by exact (ev_lk_st1 e129 (by decide) rfl)) (by exact ev_lk_st1_self)
theorem jlt_341_74 (d : Nat) (hd : 1 ≤ d + 1) (Q : Nat) (a0 : Int) (a1 : Int) (a2 : Int) (a3 : Int) (a4 : Int) (x2 : Int) (x3 : Int) (ha0 : ev_rng a0) (ha1 : ev_rng a1) (ha2 : ev_rng a2) (ha3 : ev_rng a3) (ha4 : ev_rng a4) (hx2 : ev_rng x2) (hx3 : ev_rng x3) (K116 : Int → Int → ev_St → Option ((Unit) × ev_St)) (hK116 : ∀ (x4 : Int) (hx4 : ev_rng x4), ∀ (x5 : Int) (hx5 : ev_rng x5), ∀ (s15 : ev_St) (w6 : List (Nat × Value)), ev_lk w6 0 = some (.ref 621) → ev_lk w6 1 = some (.int (Int32.ofInt a0)) → ev_lk w6 2 = some (.int (Int32.ofInt a1)) → ev_lk w6 3 = some (.int (Int32.ofInt a2)) → ev_lk w6 4 = some (.int (Int32.ofInt a3)) → ev_lk w6 5 = some (.int (Int32.ofInt a4)) → ev_lk w6 6 = some (.int (Int32.ofInt x4)) → ev_lk w6 7 = some (.int (Int32.ofInt x5)) → ev_w none (ev_Mof 341) d 116 w6 [] s15 (K116 x4 x5 s15) ev_eU ev_PU) : ∀ q : Nat, ∀ (x120 : Int) (hx120 : ev_rng x120), ∀ (s131 : ev_St) (w121 : List (Nat × Value)), ev_lk w121 0 = some (.ref 621) → ev_lk w121 1 = some (.int (Int32.ofInt a0)) → ev_lk w121 2 = some (.int (Int32.ofInt a1)) → ev_lk w121 3 = some (.int (Int32.ofInt a2)) → ev_lk w121 4 = some (.int (Int32.ofInt a3)) → ev_lk w121 5 = some (.int (Int32.ofInt a4)) → ev_lk w121 6 = some (.int (Int32.ofInt x2)) → ev_lk w121 7 = some (.int (Int32.ofInt x3)) → ev_lk w121 8 = some (.int (Int32.ofInt x120)) → ev_w none (ev_Mof 341) d 74 w121 [] s131 (jl_341_74 Q a0 a1 a2 a3 a4 x2 x3 K116 q x120 s131) ev_eU ev_PU := by
  intro q
  induction q with
  | zero =>
    intro x120 hx120 s131 w121 e122 e123 e124 e125 e126 e127 e128 e129 e130
    exact ev_w_none
  | succ q ih => exact jbt_341_74 d hd Q a0 a1 a2 a3 a4 x2 x3 ha0 ha1 ha2 ha3 ha4 hx2 hx3 K116 hK116 _ ih
def jb_341_27 (Q : Nat) (a0 : Int) (a1 : Int) (a2 : Int) (a3 : Int) (a4 : Int) (x2 : Int) (x3 : Int) (K116 : Int → Int → ev_St → Option ((Unit) × ev_St)) (K27 : Int → ev_St → Option ((Unit) × ev_St)) (x142 : Int) (s153 : ev_St) : Option ((Unit) × ev_St) := if x142 < a2 then (K116 x2 x3 s153) else (ev_ck (200 * a0) fun x155 => ev_ck (x155 + x142) fun x156 => ev_ck (x156 + x2) fun x157 => ev_ck (200 * a0) fun x158 => ev_ck (x158 + x142) fun x159 => ev_if ((0 : Int) ≤ x159 ∧ x159 < (ev_aln 708 : Int)) (ev_b (s153.1 708 (Int.toNat x159)) fun x160 => ev_if ((0 : Int) ≤ x157 ∧ x157 < (ev_aln 708 : Int)) (ev_b (ev_pI s153 708 (Int.toNat x157) x160) fun s161 => ev_ck (x142 + (-1)) fun x162 => K27 x162 s161)))
def jl_341_27 (Q : Nat) (a0 : Int) (a1 : Int) (a2 : Int) (a3 : Int) (a4 : Int) (x2 : Int) (x3 : Int) (K116 : Int → Int → ev_St → Option ((Unit) × ev_St)) : Nat → Int → ev_St → Option ((Unit) × ev_St)
  | 0 => fun _ _ => none
  | q + 1 => jb_341_27 Q a0 a1 a2 a3 a4 x2 x3 K116 (jl_341_27 Q a0 a1 a2 a3 a4 x2 x3 K116 q)
theorem jbt_341_27 (d : Nat) (hd : 1 ≤ d + 1) (Q : Nat) (a0 : Int) (a1 : Int) (a2 : Int) (a3 : Int) (a4 : Int) (x2 : Int) (x3 : Int) (ha0 : ev_rng a0) (ha1 : ev_rng a1) (ha2 : ev_rng a2) (ha3 : ev_rng a3) (ha4 : ev_rng a4) (hx2 : ev_rng x2) (hx3 : ev_rng x3) (K116 : Int → Int → ev_St → Option ((Unit) × ev_St)) (hK116 : ∀ (x4 : Int) (hx4 : ev_rng x4), ∀ (x5 : Int) (hx5 : ev_rng x5), ∀ (s15 : ev_St) (w6 : List (Nat × Value)), ev_lk w6 0 = some (.ref 621) → ev_lk w6 1 = some (.int (Int32.ofInt a0)) → ev_lk w6 2 = some (.int (Int32.ofInt a1)) → ev_lk w6 3 = some (.int (Int32.ofInt a2)) → ev_lk w6 4 = some (.int (Int32.ofInt a3)) → ev_lk w6 5 = some (.int (Int32.ofInt a4)) → ev_lk w6 6 = some (.int (Int32.ofInt x4)) → ev_lk w6 7 = some (.int (Int32.ofInt x5)) → ev_w none (ev_Mof 341) d 116 w6 [] s15 (K116 x4 x5 s15) ev_eU ev_PU) (K27 : Int → ev_St → Option ((Unit) × ev_St)) (hK27 : ∀ (x142 : Int) (hx142 : ev_rng x142), ∀ (s153 : ev_St) (w143 : List (Nat × Value)), ev_lk w143 0 = some (.ref 621) → ev_lk w143 1 = some (.int (Int32.ofInt a0)) → ev_lk w143 2 = some (.int (Int32.ofInt a1)) → ev_lk w143 3 = some (.int (Int32.ofInt a2)) → ev_lk w143 4 = some (.int (Int32.ofInt a3)) → ev_lk w143 5 = some (.int (Int32.ofInt a4)) → ev_lk w143 6 = some (.int (Int32.ofInt x2)) → ev_lk w143 7 = some (.int (Int32.ofInt x3)) → ev_lk w143 8 = some (.int (Int32.ofInt x142)) → ev_w none (ev_Mof 341) d 27 w143 [] s153 (K27 x142 s153) ev_eU ev_PU) : ∀ (x142 : Int) (hx142 : ev_rng x142), ∀ (s153 : ev_St) (w143 : List (Nat × Value)), ev_lk w143 0 = some (.ref 621) → ev_lk w143 1 = some (.int (Int32.ofInt a0)) → ev_lk w143 2 = some (.int (Int32.ofInt a1)) → ev_lk w143 3 = some (.int (Int32.ofInt a2)) → ev_lk w143 4 = some (.int (Int32.ofInt a3)) → ev_lk w143 5 = some (.int (Int32.ofInt a4)) → ev_lk w143 6 = some (.int (Int32.ofInt x2)) → ev_lk w143 7 = some (.int (Int32.ofInt x3)) → ev_lk w143 8 = some (.int (Int32.ofInt x142)) → ev_w none (ev_Mof 341) d 27 w143 [] s153 (jb_341_27 Q a0 a1 a2 a3 a4 x2 x3 K116 K27 x142 s153) ev_eU ev_PU := by
  intro x142 hx142 s153 w143 e144 e145 e146 e147 e148 e149 e150 e151 e152
  unfold jb_341_27
  refine ev_r_iload (pc := 27) (k := 8) (v := Int32.ofInt x142) (by decide +kernel) (by exact e152) ?_
  refine ev_r_iload_n (pc := 29) (k := 3) (v := Int32.ofInt a2) (by decide +kernel) (by exact e147) ?_
  refine ev_r_icmp (pc := 30) (q := .lt) (o := 38) (t := 68) (c := x142 < a2) (by decide +kernel) (ev_k_lt hx142 ha2) (by decide +kernel) ?_ ?_
  · intro c154
    refine ev_r_goto (pc := 68) (o := 48) (t := 116) (by decide +kernel) (by decide +kernel) ?_
    exact hK116 x2 hx2 x3 hx3 s153 _ (by exact e144) (by exact e145) (by exact e146) (by exact e147) (by exact e148) (by exact e149) (by exact e150) (by exact e151)
  · intro c154
    refine ev_r_aload_n (pc := 33) (k := 0) (v := .ref 621) trivial (by decide +kernel) (by exact e144) ?_
    refine ev_r_getC (pc := 34) (y := 273) (ci := 13) (f := 120) (fin := 1) (k' := 708) (by decide +kernel) (by decide +kernel) (by exact ev_ob_621) rfl rfl ?_
    refine ev_r_sipush (pc := 37) (k := 200) (by decide +kernel) (by decide +kernel) ?_
    refine ev_r_iload_n (pc := 40) (k := 1) (v := Int32.ofInt a0) (by decide +kernel) (by exact e145) ?_
    refine ev_r_imul (pc := 41) (by decide +kernel) ?_
    intro x155 hx155
    refine ev_r_iload (pc := 42) (k := 8) (v := Int32.ofInt x142) (by decide +kernel) (by exact e152) ?_
    refine ev_r_iadd (pc := 44) (by decide +kernel) ?_
    intro x156 hx156
    refine ev_r_iload (pc := 45) (k := 6) (v := Int32.ofInt x2) (by decide +kernel) (by exact e150) ?_
    refine ev_r_iadd (pc := 47) (by decide +kernel) ?_
    intro x157 hx157
    refine ev_r_aload_n (pc := 48) (k := 0) (v := .ref 621) trivial (by decide +kernel) (by exact e144) ?_
    refine ev_r_getC (pc := 49) (y := 273) (ci := 13) (f := 120) (fin := 1) (k' := 708) (by decide +kernel) (by decide +kernel) (by exact ev_ob_621) rfl rfl ?_
    refine ev_r_sipush (pc := 52) (k := 200) (by decide +kernel) (by decide +kernel) ?_
    refine ev_r_iload_n (pc := 55) (k := 1) (v := Int32.ofInt a0) (by decide +kernel) (by exact e145) ?_
    refine ev_r_imul (pc := 56) (by decide +kernel) ?_
    intro x158 hx158
    refine ev_r_iload (pc := 57) (k := 8) (v := Int32.ofInt x142) (by decide +kernel) (by exact e152) ?_
    refine ev_r_iadd (pc := 59) (by decide +kernel) ?_
    intro x159 hx159
    refine ev_r_iald (pc := 60) hx159 (by decide +kernel) (by exact ev_ab_708) ?_
    intro x160 hx160
    refine ev_r_iast (pc := 61) hx160 hx157 (by decide +kernel) (by exact ev_ab_708) ?_
    intro s161
    refine ev_r_iinc (pc := 62) (k := 8) (c := -1) (x := x142) (by decide +kernel) (by decide +kernel) (by exact e152) (fun _ => rfl) ?_
    intro x162 hx162
    refine ev_r_goto (pc := 65) (o := (-38)) (t := 27) (by decide +kernel) (by decide +kernel) ?_
    exact hK27 x162 hx162 s161 _ (by exact (ev_l1 e144 (by decide) (by decide))) (by exact (ev_l1 e145 (by decide) (by decide))) (by exact (ev_l1 e146 (by decide) (by decide))) (by exact (ev_l1 e147 (by decide) (by decide))) (by exact (ev_l1 e148 (by decide) (by decide))) (by exact (ev_l1 e149 (by decide) (by decide))) (by exact (ev_l1 e150 (by decide) (by decide))) (by exact (ev_lk_st1 e151 (by decide) rfl)) (by exact ev_lk_st1_self)
theorem jlt_341_27 (d : Nat) (hd : 1 ≤ d + 1) (Q : Nat) (a0 : Int) (a1 : Int) (a2 : Int) (a3 : Int) (a4 : Int) (x2 : Int) (x3 : Int) (ha0 : ev_rng a0) (ha1 : ev_rng a1) (ha2 : ev_rng a2) (ha3 : ev_rng a3) (ha4 : ev_rng a4) (hx2 : ev_rng x2) (hx3 : ev_rng x3) (K116 : Int → Int → ev_St → Option ((Unit) × ev_St)) (hK116 : ∀ (x4 : Int) (hx4 : ev_rng x4), ∀ (x5 : Int) (hx5 : ev_rng x5), ∀ (s15 : ev_St) (w6 : List (Nat × Value)), ev_lk w6 0 = some (.ref 621) → ev_lk w6 1 = some (.int (Int32.ofInt a0)) → ev_lk w6 2 = some (.int (Int32.ofInt a1)) → ev_lk w6 3 = some (.int (Int32.ofInt a2)) → ev_lk w6 4 = some (.int (Int32.ofInt a3)) → ev_lk w6 5 = some (.int (Int32.ofInt a4)) → ev_lk w6 6 = some (.int (Int32.ofInt x4)) → ev_lk w6 7 = some (.int (Int32.ofInt x5)) → ev_w none (ev_Mof 341) d 116 w6 [] s15 (K116 x4 x5 s15) ev_eU ev_PU) : ∀ q : Nat, ∀ (x142 : Int) (hx142 : ev_rng x142), ∀ (s153 : ev_St) (w143 : List (Nat × Value)), ev_lk w143 0 = some (.ref 621) → ev_lk w143 1 = some (.int (Int32.ofInt a0)) → ev_lk w143 2 = some (.int (Int32.ofInt a1)) → ev_lk w143 3 = some (.int (Int32.ofInt a2)) → ev_lk w143 4 = some (.int (Int32.ofInt a3)) → ev_lk w143 5 = some (.int (Int32.ofInt a4)) → ev_lk w143 6 = some (.int (Int32.ofInt x2)) → ev_lk w143 7 = some (.int (Int32.ofInt x3)) → ev_lk w143 8 = some (.int (Int32.ofInt x142)) → ev_w none (ev_Mof 341) d 27 w143 [] s153 (jl_341_27 Q a0 a1 a2 a3 a4 x2 x3 K116 q x142 s153) ev_eU ev_PU := by
  intro q
  induction q with
  | zero =>
    intro x142 hx142 s153 w143 e144 e145 e146 e147 e148 e149 e150 e151 e152
    exact ev_w_none
  | succ q ih => exact jbt_341_27 d hd Q a0 a1 a2 a3 a4 x2 x3 ha0 ha1 ha2 ha3 ha4 hx2 hx3 K116 hK116 _ ih
/-- MendBenchModel.edits(IIIII)V -/
def jm_341 (Q : Nat) (a0 : Int) (a1 : Int) (a2 : Int) (a3 : Int) (a4 : Int) (S : ev_St) : Option ((Unit) × ev_St) := ev_ck (a2 - a1) fun x1 => ev_ck (a4 - x1) fun x2 => ev_if ((0 : Int) ≤ a0 ∧ a0 < (ev_aln 707 : Int)) (ev_b (S.1 707 (Int.toNat a0)) fun x3 => ev_jn (fun (x4 : Int) (x5 : Int) (s15 : ev_St) => jl_341_119 Q a0 a1 a2 a3 a4 x4 x5  Q 0 s15) fun K116 => if x2 ≤ 0 then (jl_341_74 Q a0 a1 a2 a3 a4 x2 x3 K116 Q a2 S) else (ev_ck (x3 - 1) fun x141 => jl_341_27 Q a0 a1 a2 a3 a4 x2 x3 K116 Q x141 S))
theorem jt_341 (d : Nat) (hd : 1 ≤ d) (Q : Nat) (a0 : Int) (a1 : Int) (a2 : Int) (a3 : Int) (a4 : Int) (ha0 : ev_rng a0) (ha1 : ev_rng a1) (ha2 : ev_rng a2) (ha3 : ev_rng a3) (ha4 : ev_rng a4) (S : ev_St) (x : Unit) (S' : ev_St) (hJ : jm_341 Q a0 a1 a2 a3 a4 S = some (x, S')) : ev_Ref d 341 [.ref 621, .int (Int32.ofInt a0), .int (Int32.ofInt a1), .int (Int32.ofInt a2), .int (Int32.ofInt a3), .int (Int32.ofInt a4)] S (ev_eU x) S' (ev_PU x) := by
  obtain ⟨d, rfl⟩ : ∃ e, d = e + 1 := ⟨d - 1, by omega⟩
  refine ev_ref_of (P := ev_PU) (lv := [(0, .ref 621), (1, .int (Int32.ofInt a0)), (2, .int (Int32.ofInt a1)), (3, .int (Int32.ofInt a2)), (4, .int (Int32.ofInt a3)), (5, .int (Int32.ofInt a4))]) (by decide +kernel) (by (try simp only [ev_sum, ev_nv_cat]); first | done | rfl) (by (try simp only [lv_args, ev_nv_cat]); first | done | rfl) ?_ x S' hJ
  unfold jm_341
  refine ev_r_iload (pc := 0) (k := 5) (v := Int32.ofInt a4) (by decide +kernel) (by rfl) ?_
  refine ev_r_iload_n (pc := 2) (k := 3) (v := Int32.ofInt a2) (by decide +kernel) (by rfl) ?_
  refine ev_r_iload_n (pc := 3) (k := 2) (v := Int32.ofInt a1) (by decide +kernel) (by rfl) ?_
  refine ev_r_isub (pc := 4) (by decide +kernel) ?_
  intro x1 hx1
  refine ev_r_isub (pc := 5) (by decide +kernel) ?_
  intro x2 hx2
  refine ev_r_istore (pc := 6) (k := 6) (by decide +kernel) (by decide +kernel) rfl ?_
  refine ev_r_aload_n (pc := 8) (k := 0) (v := .ref 621) trivial (by decide +kernel) (by exact (ev_l1 (by rfl) (by decide) (by decide))) ?_
  refine ev_r_getC (pc := 9) (y := 270) (ci := 13) (f := 119) (fin := 1) (k' := 707) (by decide +kernel) (by decide +kernel) (by exact ev_ob_621) rfl rfl ?_
  refine ev_r_iload_n (pc := 12) (k := 1) (v := Int32.ofInt a0) (by decide +kernel) (by exact (ev_l1 (by rfl) (by decide) (by decide))) ?_
  refine ev_r_iald (pc := 13) ha0 (by decide +kernel) (by exact ev_ab_707) ?_
  intro x3 hx3
  refine ev_r_istore (pc := 14) (k := 7) (by decide +kernel) (by decide +kernel) rfl ?_
  refine ev_r_iload (pc := 16) (k := 6) (v := Int32.ofInt x2) (by decide +kernel) (by exact (ev_lk_st1 ev_lk_st1_self (by decide) rfl)) ?_
  refine ev_r_jn (Q := fun K => ∀ (x4 : Int) (hx4 : ev_rng x4), ∀ (x5 : Int) (hx5 : ev_rng x5), ∀ (s15 : ev_St) (w6 : List (Nat × Value)), ev_lk w6 0 = some (.ref 621) → ev_lk w6 1 = some (.int (Int32.ofInt a0)) → ev_lk w6 2 = some (.int (Int32.ofInt a1)) → ev_lk w6 3 = some (.int (Int32.ofInt a2)) → ev_lk w6 4 = some (.int (Int32.ofInt a3)) → ev_lk w6 5 = some (.int (Int32.ofInt a4)) → ev_lk w6 6 = some (.int (Int32.ofInt x4)) → ev_lk w6 7 = some (.int (Int32.ofInt x5)) → ev_w none (ev_Mof 341) d 116 w6 [] s15 (K x4 x5 s15) ev_eU ev_PU) ?_ ?_
  · intro x4 hx4 x5 hx5 s15 w6 e7 e8 e9 e10 e11 e12 e13 e14
    refine ev_r_iconst (pc := 116) (k := 0) (by decide +kernel) ?_
    refine ev_r_istore (pc := 117) (k := 8) (by decide +kernel) (by decide +kernel) rfl ?_
    exact jlt_341_119 d hd Q a0 a1 a2 a3 a4 x4 x5 ha0 ha1 ha2 ha3 ha4 hx4 hx5   Q 0 (by decide) s15 _ (by exact (ev_l1 e7 (by decide) (by decide))) (by exact (ev_l1 e8 (by decide) (by decide))) (by exact (ev_l1 e9 (by decide) (by decide))) (by exact (ev_l1 e10 (by decide) (by decide))) (by exact (ev_l1 e11 (by decide) (by decide))) (by exact (ev_l1 e12 (by decide) (by decide))) (by exact (ev_l1 e13 (by decide) (by decide))) (by exact (ev_lk_st1 e14 (by decide) rfl)) (by exact ev_lk_st1_self)
  · intro K116 hK116
    refine ev_r_if (pc := 18) (q := .le) (o := 53) (t := 71) (c := x2 ≤ 0) (by decide +kernel) (ev_k_le hx2 ev_rng0) (by decide +kernel) ?_ ?_
    · intro c119
      refine ev_r_iload_n (pc := 71) (k := 3) (v := Int32.ofInt a2) (by decide +kernel) (by exact (ev_l1 (ev_l1 (by rfl) (by decide) (by decide)) (by decide) (by decide))) ?_
      refine ev_r_istore (pc := 72) (k := 8) (by decide +kernel) (by decide +kernel) rfl ?_
      exact jlt_341_74 d hd Q a0 a1 a2 a3 a4 x2 x3 ha0 ha1 ha2 ha3 ha4 hx2 hx3 K116 hK116 Q a2 ha2 S _ (by exact (ev_l1 (ev_l1 (ev_l1 (by rfl) (by decide) (by decide)) (by decide) (by decide)) (by decide) (by decide))) (by exact (ev_l1 (ev_l1 (ev_l1 (by rfl) (by decide) (by decide)) (by decide) (by decide)) (by decide) (by decide))) (by exact (ev_l1 (ev_l1 (ev_l1 (by rfl) (by decide) (by decide)) (by decide) (by decide)) (by decide) (by decide))) (by exact (ev_l1 (ev_l1 (ev_l1 (by rfl) (by decide) (by decide)) (by decide) (by decide)) (by decide) (by decide))) (by exact (ev_l1 (ev_l1 (ev_l1 (by rfl) (by decide) (by decide)) (by decide) (by decide)) (by decide) (by decide))) (by exact (ev_l1 (ev_l1 (ev_lk_st1 (by rfl) (by decide) rfl) (by decide) (by decide)) (by decide) (by decide))) (by exact (ev_l1 (ev_lk_st1 ev_lk_st1_self (by decide) rfl) (by decide) (by decide))) (by exact (ev_lk_st1 ev_lk_st1_self (by decide) rfl)) (by exact ev_lk_st1_self)
    · intro c119
      refine ev_r_iload (pc := 21) (k := 7) (v := Int32.ofInt x3) (by decide +kernel) (by exact ev_lk_st1_self) ?_
      refine ev_r_iconst (pc := 23) (k := 1) (by decide +kernel) ?_
      refine ev_r_isub (pc := 24) (by decide +kernel) ?_
      intro x141 hx141
      refine ev_r_istore (pc := 25) (k := 8) (by decide +kernel) (by decide +kernel) rfl ?_
      exact jlt_341_27 d hd Q a0 a1 a2 a3 a4 x2 x3 ha0 ha1 ha2 ha3 ha4 hx2 hx3 K116 hK116 Q x141 hx141 S _ (by exact (ev_l1 (ev_l1 (ev_l1 (by rfl) (by decide) (by decide)) (by decide) (by decide)) (by decide) (by decide))) (by exact (ev_l1 (ev_l1 (ev_l1 (by rfl) (by decide) (by decide)) (by decide) (by decide)) (by decide) (by decide))) (by exact (ev_l1 (ev_l1 (ev_l1 (by rfl) (by decide) (by decide)) (by decide) (by decide)) (by decide) (by decide))) (by exact (ev_l1 (ev_l1 (ev_l1 (by rfl) (by decide) (by decide)) (by decide) (by decide)) (by decide) (by decide))) (by exact (ev_l1 (ev_l1 (ev_l1 (by rfl) (by decide) (by decide)) (by decide) (by decide)) (by decide) (by decide))) (by exact (ev_l1 (ev_l1 (ev_lk_st1 (by rfl) (by decide) rfl) (by decide) (by decide)) (by decide) (by decide))) (by exact (ev_l1 (ev_lk_st1 ev_lk_st1_self (by decide) rfl) (by decide) (by decide))) (by exact (ev_lk_st1 ev_lk_st1_self (by decide) rfl)) (by exact ev_lk_st1_self)
/-- MendBenchModel.writesLetter(I)V -/
def jm_342 (Q : Nat) (a0 : Int) (S : ev_St) : Option ((Unit) × ev_St) := ev_b (S.1 621 128) fun x1 => ev_b (ev_i2b a0) fun x2 => ev_if (narrow .byte (.int (Int32.ofInt x2)) = .int (Int32.ofInt x2)) (ev_if ((0 : Int) ≤ x1 ∧ x1 < (ev_aln 713 : Int)) (ev_b (ev_pI S 713 (Int.toNat x1) x2) fun s3 => ev_b (s3.1 621 128) fun x5 => ev_ck (x5 + 1) fun x6 => ev_b (ev_pI s3 621 128 x6) fun s7 => some ((), s7)))
theorem jt_342 (d : Nat) (hd : 1 ≤ d) (Q : Nat) (a0 : Int) (ha0 : ev_rng a0) (S : ev_St) (x : Unit) (S' : ev_St) (hJ : jm_342 Q a0 S = some (x, S')) : ev_Ref d 342 [.ref 621, .int (Int32.ofInt a0)] S (ev_eU x) S' (ev_PU x) := by
  obtain ⟨d, rfl⟩ : ∃ e, d = e + 1 := ⟨d - 1, by omega⟩
  refine ev_ref_of (P := ev_PU) (lv := [(0, .ref 621), (1, .int (Int32.ofInt a0))]) (by decide +kernel) (by (try simp only [ev_sum, ev_nv_cat]); first | done | rfl) (by (try simp only [lv_args, ev_nv_cat]); first | done | rfl) ?_ x S' hJ
  unfold jm_342
  refine ev_r_aload_n (pc := 0) (k := 0) (v := .ref 621) trivial (by decide +kernel) (by rfl) ?_
  refine ev_r_getC (pc := 1) (y := 290) (ci := 13) (f := 129) (fin := 1) (k' := 713) (by decide +kernel) (by decide +kernel) (by exact ev_ob_621) rfl rfl ?_
  refine ev_r_aload_n (pc := 4) (k := 0) (v := .ref 621) trivial (by decide +kernel) (by rfl) ?_
  refine ev_r_getI (pc := 5) (y := 760) (ci := 13) (f := 128) (fin := 0) (by decide +kernel) (by decide +kernel) (by exact ev_ob_621) rfl ?_
  intro x1 hx1
  refine ev_r_iload_n (pc := 8) (k := 1) (v := Int32.ofInt a0) (by decide +kernel) (by rfl) ?_
  refine ev_r_toI (pc := 9) (i := .i2b) (len := 1) (pc' := 10) (by decide +kernel) rfl ?_
  intro x2 hx2
  refine ev_r_chk ?_
  intro c4
  refine ev_r_bast (pc := 10) (ty := .byte) (Or.inl rfl) c4 hx2 hx1 (by decide +kernel) (by exact ev_ab_713) ?_
  intro s3
  refine ev_r_aload_n (pc := 11) (k := 0) (v := .ref 621) trivial (by decide +kernel) (by rfl) ?_
  refine ev_r_dup (pc := 12) rfl (by decide +kernel) ?_
  refine ev_r_getI (pc := 13) (y := 760) (ci := 13) (f := 128) (fin := 0) (by decide +kernel) (by decide +kernel) (by exact ev_ob_621) rfl ?_
  intro x5 hx5
  refine ev_r_iconst (pc := 16) (k := 1) (by decide +kernel) ?_
  refine ev_r_iadd (pc := 17) (by decide +kernel) ?_
  intro x6 hx6
  refine ev_r_putI (pc := 18) (y := 760) (ci := 13) (f := 128) hx6 (by decide +kernel) (by decide +kernel) (by exact ev_ob_621) rfl rfl ?_
  intro s7
  exact ev_r_return (pc := 21) (x := ()) trivial (by decide +kernel) (by decide +kernel) rfl
def jb_343_163 (Q : Nat) (a0 : Int) (a1 : Int) (a2 : Int) (a3 : Int) (a4 : Int) (a5 : Int)  (K163 : Int → Int → ev_St → Option ((Unit) × ev_St)) (x40 : Int) (x41 : Int) (s52 : ev_St) : Option ((Unit) × ev_St) := if a4 ≤ x41 then (ev_bd (jm_341 Q a0 a1 a2 x40 a4 s52) fun _ s54 => some ((), s54)) else (ev_jn (fun (x55 : Int) (s66 : ev_St) => ev_bd (jm_342 Q x55 s66) fun _ s67 => ev_ck (x41 + 1) fun x68 => K163 x40 x68 s67) fun K196 => if a5 = 0 then (ev_ck (a3 + x41) fun x70 => ev_if ((0 : Int) ≤ x70 ∧ x70 < (ev_aln 702 : Int)) (ev_b (s52.1 702 (Int.toNat x70)) fun x71 => K196 x71 s52)) else (ev_if ((0 : Int) ≤ x41 ∧ x41 < (ev_aln 622 : Int)) (ev_b (s52.1 622 (Int.toNat x41)) fun x72 => K196 x72 s52)))
def jl_343_163 (Q : Nat) (a0 : Int) (a1 : Int) (a2 : Int) (a3 : Int) (a4 : Int) (a5 : Int)  : Nat → Int → Int → ev_St → Option ((Unit) × ev_St)
  | 0 => fun _ _ _ => none
  | q + 1 => jb_343_163 Q a0 a1 a2 a3 a4 a5  (jl_343_163 Q a0 a1 a2 a3 a4 a5  q)
theorem jbt_343_163 (d : Nat) (hd : 2 ≤ d + 1) (Q : Nat) (a0 : Int) (a1 : Int) (a2 : Int) (a3 : Int) (a4 : Int) (a5 : Int) (ha0 : ev_rng a0) (ha1 : ev_rng a1) (ha2 : ev_rng a2) (ha3 : ev_rng a3) (ha4 : ev_rng a4) (ha5 : ev_rng a5)   (K163 : Int → Int → ev_St → Option ((Unit) × ev_St)) (hK163 : ∀ (x40 : Int) (hx40 : ev_rng x40), ∀ (x41 : Int) (hx41 : ev_rng x41), ∀ (s52 : ev_St) (w42 : List (Nat × Value)), ev_lk w42 0 = some (.ref 621) → ev_lk w42 1 = some (.int (Int32.ofInt a0)) → ev_lk w42 2 = some (.int (Int32.ofInt a1)) → ev_lk w42 3 = some (.int (Int32.ofInt a2)) → ev_lk w42 4 = some (.int (Int32.ofInt a3)) → ev_lk w42 5 = some (.int (Int32.ofInt a4)) → ev_lk w42 6 = some (.int (Int32.ofInt a5)) → ev_lk w42 7 = some (.int (Int32.ofInt x40)) → ev_lk w42 8 = some (.int (Int32.ofInt x41)) → ev_w none (ev_Mof 343) d 163 w42 [] s52 (K163 x40 x41 s52) ev_eU ev_PU) : ∀ (x40 : Int) (hx40 : ev_rng x40), ∀ (x41 : Int) (hx41 : ev_rng x41), ∀ (s52 : ev_St) (w42 : List (Nat × Value)), ev_lk w42 0 = some (.ref 621) → ev_lk w42 1 = some (.int (Int32.ofInt a0)) → ev_lk w42 2 = some (.int (Int32.ofInt a1)) → ev_lk w42 3 = some (.int (Int32.ofInt a2)) → ev_lk w42 4 = some (.int (Int32.ofInt a3)) → ev_lk w42 5 = some (.int (Int32.ofInt a4)) → ev_lk w42 6 = some (.int (Int32.ofInt a5)) → ev_lk w42 7 = some (.int (Int32.ofInt x40)) → ev_lk w42 8 = some (.int (Int32.ofInt x41)) → ev_w none (ev_Mof 343) d 163 w42 [] s52 (jb_343_163 Q a0 a1 a2 a3 a4 a5  K163 x40 x41 s52) ev_eU ev_PU := by
  intro x40 hx40 x41 hx41 s52 w42 e43 e44 e45 e46 e47 e48 e49 e50 e51
  unfold jb_343_163
  refine ev_r_iload (pc := 163) (k := 8) (v := Int32.ofInt x41) (by decide +kernel) (by exact e51) ?_
  refine ev_r_iload (pc := 165) (k := 5) (v := Int32.ofInt a4) (by decide +kernel) (by exact e48) ?_
  refine ev_r_icmp (pc := 167) (q := .ge) (o := 38) (t := 205) (c := a4 ≤ x41) (by decide +kernel) (ev_k_ge hx41 ha4) (by decide +kernel) ?_ ?_
  · intro c53
    refine ev_r_aload_n (pc := 205) (k := 0) (v := .ref 621) trivial (by decide +kernel) (by exact e43) ?_
    refine ev_r_iload_n (pc := 206) (k := 1) (v := Int32.ofInt a0) (by decide +kernel) (by exact e44) ?_
    refine ev_r_iload_n (pc := 207) (k := 2) (v := Int32.ofInt a1) (by decide +kernel) (by exact e45) ?_
    refine ev_r_iload_n (pc := 208) (k := 3) (v := Int32.ofInt a2) (by decide +kernel) (by exact e46) ?_
    refine ev_r_iload (pc := 209) (k := 7) (v := Int32.ofInt x40) (by decide +kernel) (by exact e50) ?_
    refine ev_r_iload (pc := 211) (k := 5) (v := Int32.ofInt a4) (by decide +kernel) (by exact e48) ?_
    refine ev_r_virt (pc := 213) (y := 779) (mi := 341) (na := 5) (k := 621) (as := [.int (Int32.ofInt a0), .int (Int32.ofInt a1), .int (Int32.ofInt a2), .int (Int32.ofInt x40), .int (Int32.ofInt a4)]) (rest := []) (encc := ev_oU) (Q := ev_PU) (fun x S1 h => jt_341 d (by omega) Q a0 a1 a2 x40 a4 ha0 ha1 ha2 hx40 ha4 s52 x S1 h) (by exact ev_ob_621) (by decide +kernel) (by decide +kernel) (by decide +kernel) (by decide +kernel) rfl (by (try simp only [ev_sum, ev_nv_cat]); first | done | rfl) ?_
    intro _ s54 _
    show ev_w _ _ _ _ _ [] _ _ _ _
    exact ev_r_return (pc := 216) (x := ()) trivial (by decide +kernel) (by decide +kernel) rfl
  · intro c53
    refine ev_r_aload_n (pc := 170) (k := 0) (v := .ref 621) trivial (by decide +kernel) (by exact e43) ?_
    refine ev_r_iload (pc := 171) (k := 6) (v := Int32.ofInt a5) (by decide +kernel) (by exact e49) ?_
    refine ev_r_jn (Q := fun K => ∀ (x55 : Int) (hx55 : ev_rng x55), ∀ (s66 : ev_St) (w56 : List (Nat × Value)), ev_lk w56 0 = some (.ref 621) → ev_lk w56 1 = some (.int (Int32.ofInt a0)) → ev_lk w56 2 = some (.int (Int32.ofInt a1)) → ev_lk w56 3 = some (.int (Int32.ofInt a2)) → ev_lk w56 4 = some (.int (Int32.ofInt a3)) → ev_lk w56 5 = some (.int (Int32.ofInt a4)) → ev_lk w56 6 = some (.int (Int32.ofInt a5)) → ev_lk w56 7 = some (.int (Int32.ofInt x40)) → ev_lk w56 8 = some (.int (Int32.ofInt x41)) → ev_w none (ev_Mof 343) d 196 w56 [.int (Int32.ofInt x55), .ref 621] s66 (K x55 s66) ev_eU ev_PU) ?_ ?_
    · intro x55 hx55 s66 w56 e57 e58 e59 e60 e61 e62 e63 e64 e65
      refine ev_r_virt (pc := 196) (y := 776) (mi := 342) (na := 1) (k := 621) (as := [.int (Int32.ofInt x55)]) (rest := []) (encc := ev_oU) (Q := ev_PU) (fun x S1 h => jt_342 d (by omega) Q x55 hx55 s66 x S1 h) (by exact ev_ob_621) (by decide +kernel) (by decide +kernel) (by decide +kernel) (by decide +kernel) rfl (by (try simp only [ev_sum, ev_nv_cat]); first | done | rfl) ?_
      intro _ s67 _
      show ev_w _ _ _ _ _ [] _ _ _ _
      refine ev_r_iinc (pc := 199) (k := 8) (c := 1) (x := x41) (by decide +kernel) (by decide +kernel) (by exact e65) (fun _ => rfl) ?_
      intro x68 hx68
      refine ev_r_goto (pc := 202) (o := (-39)) (t := 163) (by decide +kernel) (by decide +kernel) ?_
      exact hK163 x40 hx40 x68 hx68 s67 _ (by exact (ev_l1 e57 (by decide) (by decide))) (by exact (ev_l1 e58 (by decide) (by decide))) (by exact (ev_l1 e59 (by decide) (by decide))) (by exact (ev_l1 e60 (by decide) (by decide))) (by exact (ev_l1 e61 (by decide) (by decide))) (by exact (ev_l1 e62 (by decide) (by decide))) (by exact (ev_l1 e63 (by decide) (by decide))) (by exact (ev_lk_st1 e64 (by decide) rfl)) (by exact ev_lk_st1_self)
    · intro K196 hK196
      refine ev_r_if (pc := 173) (q := .eq) (o := 13) (t := 186) (c := a5 = 0) (by decide +kernel) (ev_k_eq ha5 ev_rng0) (by decide +kernel) ?_ ?_
      · intro c69
        refine ev_r_aload_n (pc := 186) (k := 0) (v := .ref 621) trivial (by decide +kernel) (by exact e43) ?_
        refine ev_r_getC (pc := 187) (y := 255) (ci := 13) (f := 114) (fin := 1) (k' := 702) (by decide +kernel) (by decide +kernel) (by exact ev_ob_621) rfl rfl ?_
        refine ev_r_iload (pc := 190) (k := 4) (v := Int32.ofInt a3) (by decide +kernel) (by exact e47) ?_
        refine ev_r_iload (pc := 192) (k := 8) (v := Int32.ofInt x41) (by decide +kernel) (by exact e51) ?_
        refine ev_r_iadd (pc := 194) (by decide +kernel) ?_
        intro x70 hx70
        refine ev_r_iald (pc := 195) hx70 (by decide +kernel) (by exact ev_ab_702) ?_
        intro x71 hx71
        exact hK196 x71 hx71 s52 _ (by exact e43) (by exact e44) (by exact e45) (by exact e46) (by exact e47) (by exact e48) (by exact e49) (by exact e50) (by exact e51)
      · intro c69
        refine ev_r_aload_n (pc := 176) (k := 0) (v := .ref 621) trivial (by decide +kernel) (by exact e43) ?_
        refine ev_r_getC (pc := 177) (y := 7) (ci := 13) (f := 2) (fin := 1) (k' := 622) (by decide +kernel) (by decide +kernel) (by exact ev_ob_621) rfl rfl ?_
        refine ev_r_iload (pc := 180) (k := 8) (v := Int32.ofInt x41) (by decide +kernel) (by exact e51) ?_
        refine ev_r_iald (pc := 182) hx41 (by decide +kernel) (by exact ev_ab_622) ?_
        intro x72 hx72
        refine ev_r_goto (pc := 183) (o := 13) (t := 196) (by decide +kernel) (by decide +kernel) ?_
        exact hK196 x72 hx72 s52 _ (by exact e43) (by exact e44) (by exact e45) (by exact e46) (by exact e47) (by exact e48) (by exact e49) (by exact e50) (by exact e51)
theorem jlt_343_163 (d : Nat) (hd : 2 ≤ d + 1) (Q : Nat) (a0 : Int) (a1 : Int) (a2 : Int) (a3 : Int) (a4 : Int) (a5 : Int) (ha0 : ev_rng a0) (ha1 : ev_rng a1) (ha2 : ev_rng a2) (ha3 : ev_rng a3) (ha4 : ev_rng a4) (ha5 : ev_rng a5)   : ∀ q : Nat, ∀ (x40 : Int) (hx40 : ev_rng x40), ∀ (x41 : Int) (hx41 : ev_rng x41), ∀ (s52 : ev_St) (w42 : List (Nat × Value)), ev_lk w42 0 = some (.ref 621) → ev_lk w42 1 = some (.int (Int32.ofInt a0)) → ev_lk w42 2 = some (.int (Int32.ofInt a1)) → ev_lk w42 3 = some (.int (Int32.ofInt a2)) → ev_lk w42 4 = some (.int (Int32.ofInt a3)) → ev_lk w42 5 = some (.int (Int32.ofInt a4)) → ev_lk w42 6 = some (.int (Int32.ofInt a5)) → ev_lk w42 7 = some (.int (Int32.ofInt x40)) → ev_lk w42 8 = some (.int (Int32.ofInt x41)) → ev_w none (ev_Mof 343) d 163 w42 [] s52 (jl_343_163 Q a0 a1 a2 a3 a4 a5  q x40 x41 s52) ev_eU ev_PU := by
  intro q
  induction q with
  | zero =>
    intro x40 hx40 x41 hx41 s52 w42 e43 e44 e45 e46 e47 e48 e49 e50 e51
    exact ev_w_none
  | succ q ih => exact jbt_343_163 d hd Q a0 a1 a2 a3 a4 a5 ha0 ha1 ha2 ha3 ha4 ha5   _ ih
def jb_343_125 (Q : Nat) (a0 : Int) (a1 : Int) (a2 : Int) (a3 : Int) (a4 : Int) (a5 : Int)  (K125 : Int → ev_St → Option ((Unit) × ev_St)) (x27 : Int) (s37 : ev_St) : Option ((Unit) × ev_St) := if a2 ≤ x27 then (ev_b (s37.1 621 128) fun x39 => jl_343_163 Q a0 a1 a2 a3 a4 a5  Q x39 0 s37) else (ev_ck (200 * a0) fun x73 => ev_ck (x73 + x27) fun x74 => ev_if ((0 : Int) ≤ x74 ∧ x74 < (ev_aln 708 : Int)) (ev_b (s37.1 708 (Int.toNat x74)) fun x75 => ev_bd (jm_342 Q x75 s37) fun _ s76 => ev_ck (x27 + 1) fun x77 => K125 x77 s76))
def jl_343_125 (Q : Nat) (a0 : Int) (a1 : Int) (a2 : Int) (a3 : Int) (a4 : Int) (a5 : Int)  : Nat → Int → ev_St → Option ((Unit) × ev_St)
  | 0 => fun _ _ => none
  | q + 1 => jb_343_125 Q a0 a1 a2 a3 a4 a5  (jl_343_125 Q a0 a1 a2 a3 a4 a5  q)
theorem jbt_343_125 (d : Nat) (hd : 2 ≤ d + 1) (Q : Nat) (a0 : Int) (a1 : Int) (a2 : Int) (a3 : Int) (a4 : Int) (a5 : Int) (ha0 : ev_rng a0) (ha1 : ev_rng a1) (ha2 : ev_rng a2) (ha3 : ev_rng a3) (ha4 : ev_rng a4) (ha5 : ev_rng a5)   (K125 : Int → ev_St → Option ((Unit) × ev_St)) (hK125 : ∀ (x27 : Int) (hx27 : ev_rng x27), ∀ (s37 : ev_St) (w28 : List (Nat × Value)), ev_lk w28 0 = some (.ref 621) → ev_lk w28 1 = some (.int (Int32.ofInt a0)) → ev_lk w28 2 = some (.int (Int32.ofInt a1)) → ev_lk w28 3 = some (.int (Int32.ofInt a2)) → ev_lk w28 4 = some (.int (Int32.ofInt a3)) → ev_lk w28 5 = some (.int (Int32.ofInt a4)) → ev_lk w28 6 = some (.int (Int32.ofInt a5)) → ev_lk w28 7 = some (.int (Int32.ofInt x27)) → ev_w none (ev_Mof 343) d 125 w28 [] s37 (K125 x27 s37) ev_eU ev_PU) : ∀ (x27 : Int) (hx27 : ev_rng x27), ∀ (s37 : ev_St) (w28 : List (Nat × Value)), ev_lk w28 0 = some (.ref 621) → ev_lk w28 1 = some (.int (Int32.ofInt a0)) → ev_lk w28 2 = some (.int (Int32.ofInt a1)) → ev_lk w28 3 = some (.int (Int32.ofInt a2)) → ev_lk w28 4 = some (.int (Int32.ofInt a3)) → ev_lk w28 5 = some (.int (Int32.ofInt a4)) → ev_lk w28 6 = some (.int (Int32.ofInt a5)) → ev_lk w28 7 = some (.int (Int32.ofInt x27)) → ev_w none (ev_Mof 343) d 125 w28 [] s37 (jb_343_125 Q a0 a1 a2 a3 a4 a5  K125 x27 s37) ev_eU ev_PU := by
  intro x27 hx27 s37 w28 e29 e30 e31 e32 e33 e34 e35 e36
  unfold jb_343_125
  refine ev_r_iload (pc := 125) (k := 7) (v := Int32.ofInt x27) (by decide +kernel) (by exact e36) ?_
  refine ev_r_iload_n (pc := 127) (k := 3) (v := Int32.ofInt a2) (by decide +kernel) (by exact e32) ?_
  refine ev_r_icmp (pc := 128) (q := .ge) (o := 26) (t := 154) (c := a2 ≤ x27) (by decide +kernel) (ev_k_ge hx27 ha2) (by decide +kernel) ?_ ?_
  · intro c38
    refine ev_r_aload_n (pc := 154) (k := 0) (v := .ref 621) trivial (by decide +kernel) (by exact e29) ?_
    refine ev_r_getI (pc := 155) (y := 760) (ci := 13) (f := 128) (fin := 0) (by decide +kernel) (by decide +kernel) (by exact ev_ob_621) rfl ?_
    intro x39 hx39
    refine ev_r_istore (pc := 158) (k := 7) (by decide +kernel) (by decide +kernel) rfl ?_
    refine ev_r_iconst (pc := 160) (k := 0) (by decide +kernel) ?_
    refine ev_r_istore (pc := 161) (k := 8) (by decide +kernel) (by decide +kernel) rfl ?_
    exact jlt_343_163 d hd Q a0 a1 a2 a3 a4 a5 ha0 ha1 ha2 ha3 ha4 ha5   Q x39 hx39 0 (by decide) s37 _ (by exact (ev_l1 (ev_l1 e29 (by decide) (by decide)) (by decide) (by decide))) (by exact (ev_l1 (ev_l1 e30 (by decide) (by decide)) (by decide) (by decide))) (by exact (ev_l1 (ev_l1 e31 (by decide) (by decide)) (by decide) (by decide))) (by exact (ev_l1 (ev_l1 e32 (by decide) (by decide)) (by decide) (by decide))) (by exact (ev_l1 (ev_l1 e33 (by decide) (by decide)) (by decide) (by decide))) (by exact (ev_l1 (ev_l1 e34 (by decide) (by decide)) (by decide) (by decide))) (by exact (ev_l1 (ev_lk_st1 e35 (by decide) rfl) (by decide) (by decide))) (by exact (ev_lk_st1 ev_lk_st1_self (by decide) rfl)) (by exact ev_lk_st1_self)
  · intro c38
    refine ev_r_aload_n (pc := 131) (k := 0) (v := .ref 621) trivial (by decide +kernel) (by exact e29) ?_
    refine ev_r_aload_n (pc := 132) (k := 0) (v := .ref 621) trivial (by decide +kernel) (by exact e29) ?_
    refine ev_r_getC (pc := 133) (y := 273) (ci := 13) (f := 120) (fin := 1) (k' := 708) (by decide +kernel) (by decide +kernel) (by exact ev_ob_621) rfl rfl ?_
    refine ev_r_sipush (pc := 136) (k := 200) (by decide +kernel) (by decide +kernel) ?_
    refine ev_r_iload_n (pc := 139) (k := 1) (v := Int32.ofInt a0) (by decide +kernel) (by exact e30) ?_
    refine ev_r_imul (pc := 140) (by decide +kernel) ?_
    intro x73 hx73
    refine ev_r_iload (pc := 141) (k := 7) (v := Int32.ofInt x27) (by decide +kernel) (by exact e36) ?_
    refine ev_r_iadd (pc := 143) (by decide +kernel) ?_
    intro x74 hx74
    refine ev_r_iald (pc := 144) hx74 (by decide +kernel) (by exact ev_ab_708) ?_
    intro x75 hx75
    refine ev_r_virt (pc := 145) (y := 776) (mi := 342) (na := 1) (k := 621) (as := [.int (Int32.ofInt x75)]) (rest := []) (encc := ev_oU) (Q := ev_PU) (fun x S1 h => jt_342 d (by omega) Q x75 hx75 s37 x S1 h) (by exact ev_ob_621) (by decide +kernel) (by decide +kernel) (by decide +kernel) (by decide +kernel) rfl (by (try simp only [ev_sum, ev_nv_cat]); first | done | rfl) ?_
    intro _ s76 _
    show ev_w _ _ _ _ _ [] _ _ _ _
    refine ev_r_iinc (pc := 148) (k := 7) (c := 1) (x := x27) (by decide +kernel) (by decide +kernel) (by exact e36) (fun _ => rfl) ?_
    intro x77 hx77
    refine ev_r_goto (pc := 151) (o := (-26)) (t := 125) (by decide +kernel) (by decide +kernel) ?_
    exact hK125 x77 hx77 s76 _ (by exact (ev_l1 e29 (by decide) (by decide))) (by exact (ev_l1 e30 (by decide) (by decide))) (by exact (ev_l1 e31 (by decide) (by decide))) (by exact (ev_l1 e32 (by decide) (by decide))) (by exact (ev_l1 e33 (by decide) (by decide))) (by exact (ev_l1 e34 (by decide) (by decide))) (by exact (ev_lk_st1 e35 (by decide) rfl)) (by exact ev_lk_st1_self)
theorem jlt_343_125 (d : Nat) (hd : 2 ≤ d + 1) (Q : Nat) (a0 : Int) (a1 : Int) (a2 : Int) (a3 : Int) (a4 : Int) (a5 : Int) (ha0 : ev_rng a0) (ha1 : ev_rng a1) (ha2 : ev_rng a2) (ha3 : ev_rng a3) (ha4 : ev_rng a4) (ha5 : ev_rng a5)   : ∀ q : Nat, ∀ (x27 : Int) (hx27 : ev_rng x27), ∀ (s37 : ev_St) (w28 : List (Nat × Value)), ev_lk w28 0 = some (.ref 621) → ev_lk w28 1 = some (.int (Int32.ofInt a0)) → ev_lk w28 2 = some (.int (Int32.ofInt a1)) → ev_lk w28 3 = some (.int (Int32.ofInt a2)) → ev_lk w28 4 = some (.int (Int32.ofInt a3)) → ev_lk w28 5 = some (.int (Int32.ofInt a4)) → ev_lk w28 6 = some (.int (Int32.ofInt a5)) → ev_lk w28 7 = some (.int (Int32.ofInt x27)) → ev_w none (ev_Mof 343) d 125 w28 [] s37 (jl_343_125 Q a0 a1 a2 a3 a4 a5  q x27 s37) ev_eU ev_PU := by
  intro q
  induction q with
  | zero =>
    intro x27 hx27 s37 w28 e29 e30 e31 e32 e33 e34 e35 e36
    exact ev_w_none
  | succ q ih => exact jbt_343_125 d hd Q a0 a1 a2 a3 a4 a5 ha0 ha1 ha2 ha3 ha4 ha5   _ ih
/-- MendBenchModel.edit(IIIIIZ)V -/
def jm_343 (Q : Nat) (a0 : Int) (a1 : Int) (a2 : Int) (a3 : Int) (a4 : Int) (a5 : Int) (S : ev_St) : Option ((Unit) × ev_St) := ev_b (S.1 621 131) fun x1 => ev_b (S.1 621 130) fun x2 => ev_jn (fun  (s11 : ev_St) => ev_b (s11.1 621 125) fun x12 => ev_ck (a2 - a1) fun x13 => ev_ck (128 * x13) fun x14 => ev_ck (a1 + x14) fun x15 => ev_ck (16384 * a4) fun x16 => ev_ck (x15 + x16) fun x17 => ev_ck (2097152 * a0) fun x18 => ev_ck (x17 + x18) fun x19 => ev_if ((0 : Int) ≤ x12 ∧ x12 < (ev_aln 712 : Int)) (ev_b (ev_pI s11 712 (Int.toNat x12) x19) fun s20 => ev_b (s20.1 621 125) fun x21 => ev_ck (x21 + 1) fun x22 => ev_b (ev_pI s20 621 125 x22) fun s23 => ev_b (s23.1 621 126) fun x24 => ev_ck (x24 + 1) fun x25 => ev_b (ev_pI s23 621 126 x25) fun s26 => jl_343_125 Q a0 a1 a2 a3 a4 a5  Q a1 s26)) fun K71 => if x1 ≤ x2 then (K71  S) else (ev_b (S.1 621 130) fun x79 => ev_b (ev_pI S 621 131 x79) fun s80 => ev_b (s80.1 621 130) fun x81 => ev_jn (fun (x82 : Int) (s91 : ev_St) => ev_b (ev_pI s91 621 125 x82) fun s92 => ev_b (s92.1 621 130) fun x93 => ev_jn (fun (x94 : Int) (s103 : ev_St) => ev_b (ev_pI s103 621 128 x94) fun s104 => K71  s104) fun K68 => if x93 ≠ 0 then (ev_b (s92.1 621 130) fun x106 => ev_ck (x106 - 1) fun x107 => ev_if ((0 : Int) ≤ x107 ∧ x107 < (ev_aln 715 : Int)) (ev_b (s92.1 715 (Int.toNat x107)) fun x108 => K68 x108 s92)) else (K68 0 s92)) fun K42 => if x81 ≠ 0 then (ev_b (s80.1 621 130) fun x110 => ev_ck (x110 - 1) fun x111 => ev_if ((0 : Int) ≤ x111 ∧ x111 < (ev_aln 714 : Int)) (ev_b (s80.1 714 (Int.toNat x111)) fun x112 => K42 x112 s80)) else (K42 0 s80))
theorem jt_343 (d : Nat) (hd : 2 ≤ d) (Q : Nat) (a0 : Int) (a1 : Int) (a2 : Int) (a3 : Int) (a4 : Int) (a5 : Int) (ha0 : ev_rng a0) (ha1 : ev_rng a1) (ha2 : ev_rng a2) (ha3 : ev_rng a3) (ha4 : ev_rng a4) (ha5 : ev_rng a5) (S : ev_St) (x : Unit) (S' : ev_St) (hJ : jm_343 Q a0 a1 a2 a3 a4 a5 S = some (x, S')) : ev_Ref d 343 [.ref 621, .int (Int32.ofInt a0), .int (Int32.ofInt a1), .int (Int32.ofInt a2), .int (Int32.ofInt a3), .int (Int32.ofInt a4), .int (Int32.ofInt a5)] S (ev_eU x) S' (ev_PU x) := by
  obtain ⟨d, rfl⟩ : ∃ e, d = e + 1 := ⟨d - 1, by omega⟩
  refine ev_ref_of (P := ev_PU) (lv := [(0, .ref 621), (1, .int (Int32.ofInt a0)), (2, .int (Int32.ofInt a1)), (3, .int (Int32.ofInt a2)), (4, .int (Int32.ofInt a3)), (5, .int (Int32.ofInt a4)), (6, .int (Int32.ofInt a5))]) (by decide +kernel) (by (try simp only [ev_sum, ev_nv_cat]); first | done | rfl) (by (try simp only [lv_args, ev_nv_cat]); first | done | rfl) ?_ x S' hJ
  unfold jm_343
  refine ev_r_aload_n (pc := 0) (k := 0) (v := .ref 621) trivial (by decide +kernel) (by rfl) ?_
  refine ev_r_getI (pc := 1) (y := 763) (ci := 13) (f := 131) (fin := 0) (by decide +kernel) (by decide +kernel) (by exact ev_ob_621) rfl ?_
  intro x1 hx1
  refine ev_r_aload_n (pc := 4) (k := 0) (v := .ref 621) trivial (by decide +kernel) (by rfl) ?_
  refine ev_r_getI (pc := 5) (y := 766) (ci := 13) (f := 130) (fin := 0) (by decide +kernel) (by decide +kernel) (by exact ev_ob_621) rfl ?_
  intro x2 hx2
  refine ev_r_jn (Q := fun K => ∀ (s11 : ev_St) (w3 : List (Nat × Value)), ev_lk w3 0 = some (.ref 621) → ev_lk w3 1 = some (.int (Int32.ofInt a0)) → ev_lk w3 2 = some (.int (Int32.ofInt a1)) → ev_lk w3 3 = some (.int (Int32.ofInt a2)) → ev_lk w3 4 = some (.int (Int32.ofInt a3)) → ev_lk w3 5 = some (.int (Int32.ofInt a4)) → ev_lk w3 6 = some (.int (Int32.ofInt a5)) → ev_w none (ev_Mof 343) d 71 w3 [] s11 (K  s11) ev_eU ev_PU) ?_ ?_
  · intro  s11 w3 e4 e5 e6 e7 e8 e9 e10
    refine ev_r_aload_n (pc := 71) (k := 0) (v := .ref 621) trivial (by decide +kernel) (by exact e4) ?_
    refine ev_r_getC (pc := 72) (y := 286) (ci := 13) (f := 127) (fin := 1) (k' := 712) (by decide +kernel) (by decide +kernel) (by exact ev_ob_621) rfl rfl ?_
    refine ev_r_aload_n (pc := 75) (k := 0) (v := .ref 621) trivial (by decide +kernel) (by exact e4) ?_
    refine ev_r_getI (pc := 76) (y := 769) (ci := 13) (f := 125) (fin := 0) (by decide +kernel) (by decide +kernel) (by exact ev_ob_621) rfl ?_
    intro x12 hx12
    refine ev_r_iload_n (pc := 79) (k := 2) (v := Int32.ofInt a1) (by decide +kernel) (by exact e6) ?_
    refine ev_r_sipush (pc := 80) (k := 128) (by decide +kernel) (by decide +kernel) ?_
    refine ev_r_iload_n (pc := 83) (k := 3) (v := Int32.ofInt a2) (by decide +kernel) (by exact e7) ?_
    refine ev_r_iload_n (pc := 84) (k := 2) (v := Int32.ofInt a1) (by decide +kernel) (by exact e6) ?_
    refine ev_r_isub (pc := 85) (by decide +kernel) ?_
    intro x13 hx13
    refine ev_r_imul (pc := 86) (by decide +kernel) ?_
    intro x14 hx14
    refine ev_r_iadd (pc := 87) (by decide +kernel) ?_
    intro x15 hx15
    refine ev_r_sipush (pc := 88) (k := 16384) (by decide +kernel) (by decide +kernel) ?_
    refine ev_r_iload (pc := 91) (k := 5) (v := Int32.ofInt a4) (by decide +kernel) (by exact e9) ?_
    refine ev_r_imul (pc := 93) (by decide +kernel) ?_
    intro x16 hx16
    refine ev_r_iadd (pc := 94) (by decide +kernel) ?_
    intro x17 hx17
    refine ev_r_ldcw (pc := 95) (y := 772) (k := 2097152) (by decide +kernel) (by decide +kernel) ?_
    refine ev_r_iload_n (pc := 98) (k := 1) (v := Int32.ofInt a0) (by decide +kernel) (by exact e5) ?_
    refine ev_r_imul (pc := 99) (by decide +kernel) ?_
    intro x18 hx18
    refine ev_r_iadd (pc := 100) (by decide +kernel) ?_
    intro x19 hx19
    refine ev_r_iast (pc := 101) hx19 hx12 (by decide +kernel) (by exact ev_ab_712) ?_
    intro s20
    refine ev_r_aload_n (pc := 102) (k := 0) (v := .ref 621) trivial (by decide +kernel) (by exact e4) ?_
    refine ev_r_dup (pc := 103) rfl (by decide +kernel) ?_
    refine ev_r_getI (pc := 104) (y := 769) (ci := 13) (f := 125) (fin := 0) (by decide +kernel) (by decide +kernel) (by exact ev_ob_621) rfl ?_
    intro x21 hx21
    refine ev_r_iconst (pc := 107) (k := 1) (by decide +kernel) ?_
    refine ev_r_iadd (pc := 108) (by decide +kernel) ?_
    intro x22 hx22
    refine ev_r_putI (pc := 109) (y := 769) (ci := 13) (f := 125) hx22 (by decide +kernel) (by decide +kernel) (by exact ev_ob_621) rfl rfl ?_
    intro s23
    refine ev_r_aload_n (pc := 112) (k := 0) (v := .ref 621) trivial (by decide +kernel) (by exact e4) ?_
    refine ev_r_dup (pc := 113) rfl (by decide +kernel) ?_
    refine ev_r_getI (pc := 114) (y := 773) (ci := 13) (f := 126) (fin := 0) (by decide +kernel) (by decide +kernel) (by exact ev_ob_621) rfl ?_
    intro x24 hx24
    refine ev_r_iconst (pc := 117) (k := 1) (by decide +kernel) ?_
    refine ev_r_iadd (pc := 118) (by decide +kernel) ?_
    intro x25 hx25
    refine ev_r_putI (pc := 119) (y := 773) (ci := 13) (f := 126) hx25 (by decide +kernel) (by decide +kernel) (by exact ev_ob_621) rfl rfl ?_
    intro s26
    refine ev_r_iload_n (pc := 122) (k := 2) (v := Int32.ofInt a1) (by decide +kernel) (by exact e6) ?_
    refine ev_r_istore (pc := 123) (k := 7) (by decide +kernel) (by decide +kernel) rfl ?_
    exact jlt_343_125 d hd Q a0 a1 a2 a3 a4 a5 ha0 ha1 ha2 ha3 ha4 ha5   Q a1 ha1 s26 _ (by exact (ev_l1 e4 (by decide) (by decide))) (by exact (ev_l1 e5 (by decide) (by decide))) (by exact (ev_l1 e6 (by decide) (by decide))) (by exact (ev_l1 e7 (by decide) (by decide))) (by exact (ev_l1 e8 (by decide) (by decide))) (by exact (ev_l1 e9 (by decide) (by decide))) (by exact (ev_lk_st1 e10 (by decide) rfl)) (by exact ev_lk_st1_self)
  · intro K71 hK71
    refine ev_r_icmp (pc := 8) (q := .le) (o := 63) (t := 71) (c := x1 ≤ x2) (by decide +kernel) (ev_k_le hx1 hx2) (by decide +kernel) ?_ ?_
    · intro c78
      exact hK71  S _ (by rfl) (by rfl) (by rfl) (by rfl) (by rfl) (by rfl) (by rfl)
    · intro c78
      refine ev_r_aload_n (pc := 11) (k := 0) (v := .ref 621) trivial (by decide +kernel) (by rfl) ?_
      refine ev_r_aload_n (pc := 12) (k := 0) (v := .ref 621) trivial (by decide +kernel) (by rfl) ?_
      refine ev_r_getI (pc := 13) (y := 766) (ci := 13) (f := 130) (fin := 0) (by decide +kernel) (by decide +kernel) (by exact ev_ob_621) rfl ?_
      intro x79 hx79
      refine ev_r_putI (pc := 16) (y := 763) (ci := 13) (f := 131) hx79 (by decide +kernel) (by decide +kernel) (by exact ev_ob_621) rfl rfl ?_
      intro s80
      refine ev_r_aload_n (pc := 19) (k := 0) (v := .ref 621) trivial (by decide +kernel) (by rfl) ?_
      refine ev_r_aload_n (pc := 20) (k := 0) (v := .ref 621) trivial (by decide +kernel) (by rfl) ?_
      refine ev_r_getI (pc := 21) (y := 766) (ci := 13) (f := 130) (fin := 0) (by decide +kernel) (by decide +kernel) (by exact ev_ob_621) rfl ?_
      intro x81 hx81
      refine ev_r_jn (Q := fun K => ∀ (x82 : Int) (hx82 : ev_rng x82), ∀ (s91 : ev_St) (w83 : List (Nat × Value)), ev_lk w83 0 = some (.ref 621) → ev_lk w83 1 = some (.int (Int32.ofInt a0)) → ev_lk w83 2 = some (.int (Int32.ofInt a1)) → ev_lk w83 3 = some (.int (Int32.ofInt a2)) → ev_lk w83 4 = some (.int (Int32.ofInt a3)) → ev_lk w83 5 = some (.int (Int32.ofInt a4)) → ev_lk w83 6 = some (.int (Int32.ofInt a5)) → ev_w none (ev_Mof 343) d 42 w83 [.int (Int32.ofInt x82), .ref 621] s91 (K x82 s91) ev_eU ev_PU) ?_ ?_
      · intro x82 hx82 s91 w83 e84 e85 e86 e87 e88 e89 e90
        refine ev_r_putI (pc := 42) (y := 769) (ci := 13) (f := 125) hx82 (by decide +kernel) (by decide +kernel) (by exact ev_ob_621) rfl rfl ?_
        intro s92
        refine ev_r_aload_n (pc := 45) (k := 0) (v := .ref 621) trivial (by decide +kernel) (by exact e84) ?_
        refine ev_r_aload_n (pc := 46) (k := 0) (v := .ref 621) trivial (by decide +kernel) (by exact e84) ?_
        refine ev_r_getI (pc := 47) (y := 766) (ci := 13) (f := 130) (fin := 0) (by decide +kernel) (by decide +kernel) (by exact ev_ob_621) rfl ?_
        intro x93 hx93
        refine ev_r_jn (Q := fun K => ∀ (x94 : Int) (hx94 : ev_rng x94), ∀ (s103 : ev_St) (w95 : List (Nat × Value)), ev_lk w95 0 = some (.ref 621) → ev_lk w95 1 = some (.int (Int32.ofInt a0)) → ev_lk w95 2 = some (.int (Int32.ofInt a1)) → ev_lk w95 3 = some (.int (Int32.ofInt a2)) → ev_lk w95 4 = some (.int (Int32.ofInt a3)) → ev_lk w95 5 = some (.int (Int32.ofInt a4)) → ev_lk w95 6 = some (.int (Int32.ofInt a5)) → ev_w none (ev_Mof 343) d 68 w95 [.int (Int32.ofInt x94), .ref 621] s103 (K x94 s103) ev_eU ev_PU) ?_ ?_
        · intro x94 hx94 s103 w95 e96 e97 e98 e99 e100 e101 e102
          refine ev_r_putI (pc := 68) (y := 760) (ci := 13) (f := 128) hx94 (by decide +kernel) (by decide +kernel) (by exact ev_ob_621) rfl rfl ?_
          intro s104
          exact hK71  s104 _ (by exact e96) (by exact e97) (by exact e98) (by exact e99) (by exact e100) (by exact e101) (by exact e102)
        · intro K68 hK68
          refine ev_r_if (pc := 50) (q := .ne) (o := 7) (t := 57) (c := x93 ≠ 0) (by decide +kernel) (ev_k_ne hx93 ev_rng0) (by decide +kernel) ?_ ?_
          · intro c105
            refine ev_r_aload_n (pc := 57) (k := 0) (v := .ref 621) trivial (by decide +kernel) (by exact e84) ?_
            refine ev_r_getC (pc := 58) (y := 297) (ci := 13) (f := 134) (fin := 1) (k' := 715) (by decide +kernel) (by decide +kernel) (by exact ev_ob_621) rfl rfl ?_
            refine ev_r_aload_n (pc := 61) (k := 0) (v := .ref 621) trivial (by decide +kernel) (by exact e84) ?_
            refine ev_r_getI (pc := 62) (y := 766) (ci := 13) (f := 130) (fin := 0) (by decide +kernel) (by decide +kernel) (by exact ev_ob_621) rfl ?_
            intro x106 hx106
            refine ev_r_iconst (pc := 65) (k := 1) (by decide +kernel) ?_
            refine ev_r_isub (pc := 66) (by decide +kernel) ?_
            intro x107 hx107
            refine ev_r_iald (pc := 67) hx107 (by decide +kernel) (by exact ev_ab_715) ?_
            intro x108 hx108
            exact hK68 x108 hx108 s92 _ (by exact e84) (by exact e85) (by exact e86) (by exact e87) (by exact e88) (by exact e89) (by exact e90)
          · intro c105
            refine ev_r_iconst (pc := 53) (k := 0) (by decide +kernel) ?_
            refine ev_r_goto (pc := 54) (o := 14) (t := 68) (by decide +kernel) (by decide +kernel) ?_
            exact hK68 0 (by decide) s92 _ (by exact e84) (by exact e85) (by exact e86) (by exact e87) (by exact e88) (by exact e89) (by exact e90)
      · intro K42 hK42
        refine ev_r_if (pc := 24) (q := .ne) (o := 7) (t := 31) (c := x81 ≠ 0) (by decide +kernel) (ev_k_ne hx81 ev_rng0) (by decide +kernel) ?_ ?_
        · intro c109
          refine ev_r_aload_n (pc := 31) (k := 0) (v := .ref 621) trivial (by decide +kernel) (by rfl) ?_
          refine ev_r_getC (pc := 32) (y := 294) (ci := 13) (f := 133) (fin := 1) (k' := 714) (by decide +kernel) (by decide +kernel) (by exact ev_ob_621) rfl rfl ?_
          refine ev_r_aload_n (pc := 35) (k := 0) (v := .ref 621) trivial (by decide +kernel) (by rfl) ?_
          refine ev_r_getI (pc := 36) (y := 766) (ci := 13) (f := 130) (fin := 0) (by decide +kernel) (by decide +kernel) (by exact ev_ob_621) rfl ?_
          intro x110 hx110
          refine ev_r_iconst (pc := 39) (k := 1) (by decide +kernel) ?_
          refine ev_r_isub (pc := 40) (by decide +kernel) ?_
          intro x111 hx111
          refine ev_r_iald (pc := 41) hx111 (by decide +kernel) (by exact ev_ab_714) ?_
          intro x112 hx112
          exact hK42 x112 hx112 s80 _ (by rfl) (by rfl) (by rfl) (by rfl) (by rfl) (by rfl) (by rfl)
        · intro c109
          refine ev_r_iconst (pc := 27) (k := 0) (by decide +kernel) ?_
          refine ev_r_goto (pc := 28) (o := 14) (t := 42) (by decide +kernel) (by decide +kernel) ?_
          exact hK42 0 (by decide) s80 _ (by rfl) (by rfl) (by rfl) (by rfl) (by rfl) (by rfl) (by rfl)
