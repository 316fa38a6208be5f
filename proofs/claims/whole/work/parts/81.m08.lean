/-! METHODS as functions, laid by decomp.py -/
theorem ev_ab_651 : ev_isAb 651 2 .long = true := (by decide +kernel)
theorem ev_ab_657 : ev_isAb 657 1 .int = true := (by decide +kernel)
theorem ev_ab_652 : ev_isAb 652 2 .long = true := (by decide +kernel)
theorem ev_ab_653 : ev_isAb 653 2 .long = true := (by decide +kernel)
theorem ev_ab_654 : ev_isAb 654 2 .long = true := (by decide +kernel)
theorem ev_ab_656 : ev_isAb 656 1 .boolean = true := (by decide +kernel)
theorem ev_ab_655 : ev_isAb 655 1 .boolean = true := (by decide +kernel)
theorem ev_ab_636 : ev_isAb 636 1 .int = true := (by decide +kernel)
theorem ev_ab_637 : ev_isAb 637 1 .int = true := (by decide +kernel)
theorem ev_ab_638 : ev_isAb 638 1 .int = true := (by decide +kernel)
/-- MendBenchModel.twoOf(I)J -/
def jm_243 (Q : Nat) (a0 : Int) (S : ev_St) : Option ((Int64) × ev_St) := ev_jn (fun (x1 : Int) (s3 : ev_St) => if 64 ≤ x1 then (ev_ck (x1 - 64) fun x5 => ev_b (ev_lshl ((Int64.ofNat ((1 : Fin 2) : Nat))) x5) fun y6 => some (y6, s3)) else (some ((Int64.ofNat ((0 : Fin 2) : Nat)), s3))) fun K14 => if a0 ≠ 10 then (ev_ck (a0 - 31) fun x8 => K14 x8 S) else (K14 0 S)
theorem jt_243 (d : Nat) (hd : 1 ≤ d) (Q : Nat) (a0 : Int) (ha0 : ev_rng a0) (S : ev_St) (x : Int64) (S' : ev_St) (hJ : jm_243 Q a0 S = some (x, S')) : ev_Ref d 243 [.int (Int32.ofInt a0)] S (ev_eL x) S' (ev_PU x) := by
  obtain ⟨d, rfl⟩ : ∃ e, d = e + 1 := ⟨d - 1, by omega⟩
  refine ev_ref_of (P := ev_PU) (lv := [(0, .int (Int32.ofInt a0))]) (by decide +kernel) (by (try simp only [ev_sum, ev_nv_cat]); first | done | rfl) (by (try simp only [lv_args, ev_nv_cat]); first | done | rfl) ?_ x S' hJ
  unfold jm_243
  refine ev_r_iload_n (pc := 0) (k := 0) (v := Int32.ofInt a0) (by decide +kernel) (by rfl) ?_
  refine ev_r_bipush (pc := 1) (k := 10) (by decide +kernel) (by decide +kernel) ?_
  refine ev_r_jn (Q := fun K => ∀ (x1 : Int) (hx1 : ev_rng x1), ∀ (s3 : ev_St) (w2 : List (Nat × Value)), ev_w none (ev_Mof 243) d 14 w2 [.int (Int32.ofInt x1)] s3 (K x1 s3) ev_eL ev_PU) ?_ ?_
  · intro x1 hx1 s3 w2 
    refine ev_r_istore_n (pc := 14) (k := 1) (by decide +kernel) (by decide +kernel) rfl ?_
    refine ev_r_iload_n (pc := 15) (k := 1) (v := Int32.ofInt x1) (by decide +kernel) (by exact ev_lk_st1_self) ?_
    refine ev_r_bipush (pc := 16) (k := 64) (by decide +kernel) (by decide +kernel) ?_
    refine ev_r_icmp (pc := 18) (q := .ge) (o := 7) (t := 25) (c := 64 ≤ x1) (by decide +kernel) (ev_k_ge hx1 (by decide)) (by decide +kernel) ?_ ?_
    · intro c4
      refine ev_r_lconst (pc := 25) (c := 1) (by decide +kernel) ?_
      refine ev_r_iload_n (pc := 26) (k := 1) (v := Int32.ofInt x1) (by decide +kernel) (by exact ev_lk_st1_self) ?_
      refine ev_r_bipush (pc := 27) (k := 64) (by decide +kernel) (by decide +kernel) ?_
      refine ev_r_isub (pc := 29) (by decide +kernel) ?_
      intro x5 hx5
      refine ev_r_toL (pc := 30) (i := .lshl) (len := 1) (pc' := 31) (by decide +kernel) rfl ?_
      intro y6
      exact ev_r_lreturn (pc := 31) (x := y6) trivial (by decide +kernel) (by decide +kernel) rfl
    · intro c4
      refine ev_r_lconst (pc := 21) (c := 0) (by decide +kernel) ?_
      refine ev_r_goto (pc := 22) (o := 9) (t := 31) (by decide +kernel) (by decide +kernel) ?_
      exact ev_r_lreturn (pc := 31) (x := (Int64.ofNat ((0 : Fin 2) : Nat))) trivial (by decide +kernel) (by decide +kernel) rfl
  · intro K14 hK14
    refine ev_r_icmp (pc := 3) (q := .ne) (o := 7) (t := 10) (c := a0 ≠ 10) (by decide +kernel) (ev_k_ne ha0 (by decide)) (by decide +kernel) ?_ ?_
    · intro c7
      refine ev_r_iload_n (pc := 10) (k := 0) (v := Int32.ofInt a0) (by decide +kernel) (by rfl) ?_
      refine ev_r_bipush (pc := 11) (k := 31) (by decide +kernel) (by decide +kernel) ?_
      refine ev_r_isub (pc := 13) (by decide +kernel) ?_
      intro x8 hx8
      exact hK14 x8 hx8 S _ 
    · intro c7
      refine ev_r_iconst (pc := 6) (k := 0) (by decide +kernel) ?_
      refine ev_r_goto (pc := 7) (o := 7) (t := 14) (by decide +kernel) (by decide +kernel) ?_
      exact hK14 0 (by decide) S _ 
/-- MendBenchModel.isOf(JJI)Z -/
def jm_244 (Q : Nat) (a0 : Int64) (a1 : Int64) (a2 : Int) (S : ev_St) : Option ((Int) × ev_St) := ev_bd (jm_242 Q a2 S) fun y2 s1 => ev_b (a0 &&& y2) fun y3 => ev_b (ev_lcmp y3 ((Int64.ofNat ((0 : Fin 2) : Nat)))) fun x4 => if x4 ≠ 0 then (some (1, s1)) else (ev_bd (jm_243 Q a2 s1) fun y7 s6 => ev_b (a1 &&& y7) fun y8 => ev_b (ev_lcmp y8 ((Int64.ofNat ((0 : Fin 2) : Nat)))) fun x9 => if x9 = 0 then (some (0, s6)) else (some (1, s6)))
theorem jt_244 (d : Nat) (hd : 2 ≤ d) (Q : Nat) (a0 : Int64) (a1 : Int64) (a2 : Int) (ha2 : ev_rng a2) (S : ev_St) (x : Int) (S' : ev_St) (hJ : jm_244 Q a0 a1 a2 S = some (x, S')) : ev_Ref d 244 [.long a0, .long a1, .int (Int32.ofInt a2)] S (ev_eI x) S' (ev_bl x) := by
  obtain ⟨d, rfl⟩ : ∃ e, d = e + 1 := ⟨d - 1, by omega⟩
  refine ev_ref_of (P := ev_bl) (lv := [(0, .long a0), (2, .long a1), (4, .int (Int32.ofInt a2))]) (by decide +kernel) (by (try simp only [ev_sum, ev_nv_cat]); first | done | rfl) (by (try simp only [lv_args, ev_nv_cat]); first | done | rfl) ?_ x S' hJ
  unfold jm_244
  refine ev_r_lload_n (pc := 0) (k := 0) (v := a0) (by decide +kernel) (by rfl) ?_
  refine ev_r_iload (pc := 1) (k := 4) (v := Int32.ofInt a2) (by decide +kernel) (by rfl) ?_
  refine ev_r_stat (pc := 3) (y := 387) (kind := 2) (mi := 242) (na := 1) (as := [.int (Int32.ofInt a2)]) (rest := [.long a0]) (encc := ev_oL) (Q := ev_PU) (fun x S1 h => jt_242 d (by omega) Q a2 ha2 S x S1 h) (Or.inl rfl) (by decide +kernel) (by decide +kernel) (by decide +kernel) (by decide +kernel) rfl (by (try simp only [ev_sum, ev_nv_cat]); first | done | rfl) ?_
  intro y2 s1 _
  show ev_w _ _ _ _ _ [.long y2, .long a0] _ _ _ _
  refine ev_r_toL (pc := 6) (i := .land) (len := 1) (pc' := 7) (by decide +kernel) rfl ?_
  intro y3
  refine ev_r_lconst (pc := 7) (c := 0) (by decide +kernel) ?_
  refine ev_r_toI (pc := 8) (i := .lcmp) (len := 1) (pc' := 9) (by decide +kernel) rfl ?_
  intro x4 hx4
  refine ev_r_if (pc := 9) (q := .ne) (o := 15) (t := 24) (c := x4 ≠ 0) (by decide +kernel) (ev_k_ne hx4 ev_rng0) (by decide +kernel) ?_ ?_
  · intro c5
    refine ev_r_iconst (pc := 24) (k := 1) (by decide +kernel) ?_
    refine ev_r_goto (pc := 25) (o := 4) (t := 29) (by decide +kernel) (by decide +kernel) ?_
    exact ev_r_ireturn (pc := 29) (x := 1) (v := Int32.ofInt 1) (ty := .boolean) (by decide : ev_bl 1) (by decide +kernel) (by decide +kernel) (ev_ret_bl (by decide : ev_bl 1)) rfl
  · intro c5
    refine ev_r_lload_n (pc := 12) (k := 2) (v := a1) (by decide +kernel) (by rfl) ?_
    refine ev_r_iload (pc := 13) (k := 4) (v := Int32.ofInt a2) (by decide +kernel) (by rfl) ?_
    refine ev_r_stat (pc := 15) (y := 391) (kind := 2) (mi := 243) (na := 1) (as := [.int (Int32.ofInt a2)]) (rest := [.long a1]) (encc := ev_oL) (Q := ev_PU) (fun x S1 h => jt_243 d (by omega) Q a2 ha2 s1 x S1 h) (Or.inl rfl) (by decide +kernel) (by decide +kernel) (by decide +kernel) (by decide +kernel) rfl (by (try simp only [ev_sum, ev_nv_cat]); first | done | rfl) ?_
    intro y7 s6 _
    show ev_w _ _ _ _ _ [.long y7, .long a1] _ _ _ _
    refine ev_r_toL (pc := 18) (i := .land) (len := 1) (pc' := 19) (by decide +kernel) rfl ?_
    intro y8
    refine ev_r_lconst (pc := 19) (c := 0) (by decide +kernel) ?_
    refine ev_r_toI (pc := 20) (i := .lcmp) (len := 1) (pc' := 21) (by decide +kernel) rfl ?_
    intro x9 hx9
    refine ev_r_if (pc := 21) (q := .eq) (o := 7) (t := 28) (c := x9 = 0) (by decide +kernel) (ev_k_eq hx9 ev_rng0) (by decide +kernel) ?_ ?_
    · intro c10
      refine ev_r_iconst (pc := 28) (k := 0) (by decide +kernel) ?_
      exact ev_r_ireturn (pc := 29) (x := 0) (v := Int32.ofInt 0) (ty := .boolean) (by decide : ev_bl 0) (by decide +kernel) (by decide +kernel) (ev_ret_bl (by decide : ev_bl 0)) rfl
    · intro c10
      refine ev_r_iconst (pc := 24) (k := 1) (by decide +kernel) ?_
      refine ev_r_goto (pc := 25) (o := 4) (t := 29) (by decide +kernel) (by decide +kernel) ?_
      exact ev_r_ireturn (pc := 29) (x := 1) (v := Int32.ofInt 1) (ty := .boolean) (by decide : ev_bl 1) (by decide +kernel) (by decide +kernel) (ev_ret_bl (by decide : ev_bl 1)) rfl
def jb_245_13 (Q : Nat) (a1 : Int) (a2 : Int)  (K13 : Int → ev_St → Option ((Unit) × ev_St)) (x3 : Int) (s9 : ev_St) : Option ((Unit) × ev_St) := if a1 < x3 then (some ((), s9)) else (ev_bd (jm_223 Q x3 s9) fun x12 s11 => ev_jn (fun  (s18 : ev_St) => ev_ck (x3 + 1) fun x19 => K13 x19 s18) fun K89 => if x12 = 0 then (K89  s11) else (ev_b (s11.2.1 621 41) fun y21 => ev_bd (jm_242 Q x3 s11) fun y23 s22 => ev_jn (fun (y26 : Int64) (y25 : Int64) (y24 : Int64) (s32 : ev_St) => ev_b (y25 ||| y26) fun y33 => ev_b (y24 ||| y33) fun y34 => ev_b (ev_pL s32 621 41 y34) fun s35 => ev_b (s35.2.1 621 42) fun y36 => ev_bd (jm_243 Q x3 s35) fun y38 s37 => ev_jn (fun (y41 : Int64) (y40 : Int64) (y39 : Int64) (s47 : ev_St) => ev_b (y40 ||| y41) fun y48 => ev_b (y39 ||| y48) fun y49 => ev_b (ev_pL s47 621 42 y49) fun s50 => K89  s50) fun K84 => if a2 = 0 then (K84 ((Int64.ofNat ((0 : Fin 2) : Nat))) y38 y36 s37) else (ev_bd (jm_229 Q x3 s37) fun x53 s52 => ev_bd (jm_243 Q x53 s52) fun y55 s54 => K84 y55 y38 y36 s54)) fun K53 => if a2 = 0 then (K53 ((Int64.ofNat ((0 : Fin 2) : Nat))) y23 y21 s22) else (ev_bd (jm_229 Q x3 s22) fun x58 s57 => ev_bd (jm_242 Q x58 s57) fun y60 s59 => K53 y60 y23 y21 s59)))
def jl_245_13 (Q : Nat) (a1 : Int) (a2 : Int)  : Nat → Int → ev_St → Option ((Unit) × ev_St)
  | 0 => fun _ _ => none
  | q + 1 => jb_245_13 Q a1 a2  (jl_245_13 Q a1 a2  q)
theorem jbt_245_13 (d : Nat) (hd : 5 ≤ d + 1) (Q : Nat) (a1 : Int) (a2 : Int) (ha1 : ev_rng a1) (ha2 : ev_rng a2)   (K13 : Int → ev_St → Option ((Unit) × ev_St)) (hK13 : ∀ (x3 : Int) (hx3 : ev_rng x3), ∀ (s9 : ev_St) (w4 : List (Nat × Value)), ev_lk w4 0 = some (.ref 621) → ev_lk w4 2 = some (.int (Int32.ofInt a1)) → ev_lk w4 3 = some (.int (Int32.ofInt a2)) → ev_lk w4 4 = some (.int (Int32.ofInt x3)) → ev_w none (ev_Mof 245) d 13 w4 [] s9 (K13 x3 s9) ev_eU ev_PU) : ∀ (x3 : Int) (hx3 : ev_rng x3), ∀ (s9 : ev_St) (w4 : List (Nat × Value)), ev_lk w4 0 = some (.ref 621) → ev_lk w4 2 = some (.int (Int32.ofInt a1)) → ev_lk w4 3 = some (.int (Int32.ofInt a2)) → ev_lk w4 4 = some (.int (Int32.ofInt x3)) → ev_w none (ev_Mof 245) d 13 w4 [] s9 (jb_245_13 Q a1 a2  K13 x3 s9) ev_eU ev_PU := by
  intro x3 hx3 s9 w4 e5 e6 e7 e8
  unfold jb_245_13
  refine ev_r_iload (pc := 13) (k := 4) (v := Int32.ofInt x3) (by decide +kernel) (by exact e8) ?_
  refine ev_r_iload_n (pc := 15) (k := 2) (v := Int32.ofInt a1) (by decide +kernel) (by exact e6) ?_
  refine ev_r_icmp (pc := 16) (q := .gt) (o := 79) (t := 95) (c := a1 < x3) (by decide +kernel) (ev_k_gt hx3 ha1) (by decide +kernel) ?_ ?_
  · intro c10
    exact ev_r_return (pc := 95) (x := ()) trivial (by decide +kernel) (by decide +kernel) rfl
  · intro c10
    refine ev_r_iload (pc := 19) (k := 4) (v := Int32.ofInt x3) (by decide +kernel) (by exact e8) ?_
    refine ev_r_stat (pc := 21) (y := 339) (kind := 2) (mi := 223) (na := 1) (as := [.int (Int32.ofInt x3)]) (rest := []) (encc := ev_oI) (Q := ev_bl) (fun x S1 h => jt_223 d (by omega) Q x3 hx3 s9 x S1 h) (Or.inl rfl) (by decide +kernel) (by decide +kernel) (by decide +kernel) (by decide +kernel) rfl (by (try simp only [ev_sum, ev_nv_cat]); first | done | rfl) ?_
    intro x12 s11 hx12
    replace hx12 := ev_bl_rng hx12
    show ev_w _ _ _ _ _ [.int (Int32.ofInt x12)] _ _ _ _
    refine ev_r_jn (Q := fun K => ∀ (s18 : ev_St) (w13 : List (Nat × Value)), ev_lk w13 0 = some (.ref 621) → ev_lk w13 2 = some (.int (Int32.ofInt a1)) → ev_lk w13 3 = some (.int (Int32.ofInt a2)) → ev_lk w13 4 = some (.int (Int32.ofInt x3)) → ev_w none (ev_Mof 245) d 89 w13 [] s18 (K  s18) ev_eU ev_PU) ?_ ?_
    · intro  s18 w13 e14 e15 e16 e17
      refine ev_r_iinc (pc := 89) (k := 4) (c := 1) (x := x3) (by decide +kernel) (by decide +kernel) (by exact e17) (fun _ => rfl) ?_
      intro x19 hx19
      refine ev_r_goto (pc := 92) (o := (-79)) (t := 13) (by decide +kernel) (by decide +kernel) ?_
      exact hK13 x19 hx19 s18 _ (by exact (ev_l1 e14 (by decide) (by decide))) (by exact (ev_l1 e15 (by decide) (by decide))) (by exact (ev_lk_st1 e16 (by decide) rfl)) (by exact ev_lk_st1_self)
    · intro K89 hK89
      refine ev_r_if (pc := 24) (q := .eq) (o := 65) (t := 89) (c := x12 = 0) (by decide +kernel) (ev_k_eq hx12 ev_rng0) (by decide +kernel) ?_ ?_
      · intro c20
        exact hK89  s11 _ (by exact e5) (by exact e6) (by exact e7) (by exact e8)
      · intro c20
        refine ev_r_aload_n (pc := 27) (k := 0) (v := .ref 621) trivial (by decide +kernel) (by exact e5) ?_
        refine ev_r_dup (pc := 28) rfl (by decide +kernel) ?_
        refine ev_r_getL (pc := 29) (y := 394) (ci := 13) (f := 41) (fin := 0) (by decide +kernel) (by decide +kernel) (by exact ev_ob_621) rfl ?_
        intro y21
        refine ev_r_iload (pc := 32) (k := 4) (v := Int32.ofInt x3) (by decide +kernel) (by exact e8) ?_
        refine ev_r_stat (pc := 34) (y := 387) (kind := 2) (mi := 242) (na := 1) (as := [.int (Int32.ofInt x3)]) (rest := [.long y21, .ref 621]) (encc := ev_oL) (Q := ev_PU) (fun x S1 h => jt_242 d (by omega) Q x3 hx3 s11 x S1 h) (Or.inl rfl) (by decide +kernel) (by decide +kernel) (by decide +kernel) (by decide +kernel) rfl (by (try simp only [ev_sum, ev_nv_cat]); first | done | rfl) ?_
        intro y23 s22 _
        show ev_w _ _ _ _ _ [.long y23, .long y21, .ref 621] _ _ _ _
        refine ev_r_iload_n (pc := 37) (k := 3) (v := Int32.ofInt a2) (by decide +kernel) (by exact e7) ?_
        refine ev_r_jn (Q := fun K => ∀ (y26 : Int64), ∀ (y25 : Int64), ∀ (y24 : Int64), ∀ (s32 : ev_St) (w27 : List (Nat × Value)), ev_lk w27 0 = some (.ref 621) → ev_lk w27 2 = some (.int (Int32.ofInt a1)) → ev_lk w27 3 = some (.int (Int32.ofInt a2)) → ev_lk w27 4 = some (.int (Int32.ofInt x3)) → ev_w none (ev_Mof 245) d 53 w27 [.long y26, .long y25, .long y24, .ref 621] s32 (K y26 y25 y24 s32) ev_eU ev_PU) ?_ ?_
        · intro y26 y25 y24 s32 w27 e28 e29 e30 e31
          refine ev_r_toL (pc := 53) (i := .lor) (len := 1) (pc' := 54) (by decide +kernel) rfl ?_
          intro y33
          refine ev_r_toL (pc := 54) (i := .lor) (len := 1) (pc' := 55) (by decide +kernel) rfl ?_
          intro y34
          refine ev_r_putL (pc := 55) (y := 394) (ci := 13) (f := 41) (by decide +kernel) (by decide +kernel) (by exact ev_ob_621) rfl rfl ?_
          intro s35
          refine ev_r_aload_n (pc := 58) (k := 0) (v := .ref 621) trivial (by decide +kernel) (by exact e28) ?_
          refine ev_r_dup (pc := 59) rfl (by decide +kernel) ?_
          refine ev_r_getL (pc := 60) (y := 398) (ci := 13) (f := 42) (fin := 0) (by decide +kernel) (by decide +kernel) (by exact ev_ob_621) rfl ?_
          intro y36
          refine ev_r_iload (pc := 63) (k := 4) (v := Int32.ofInt x3) (by decide +kernel) (by exact e31) ?_
          refine ev_r_stat (pc := 65) (y := 391) (kind := 2) (mi := 243) (na := 1) (as := [.int (Int32.ofInt x3)]) (rest := [.long y36, .ref 621]) (encc := ev_oL) (Q := ev_PU) (fun x S1 h => jt_243 d (by omega) Q x3 hx3 s35 x S1 h) (Or.inl rfl) (by decide +kernel) (by decide +kernel) (by decide +kernel) (by decide +kernel) rfl (by (try simp only [ev_sum, ev_nv_cat]); first | done | rfl) ?_
          intro y38 s37 _
          show ev_w _ _ _ _ _ [.long y38, .long y36, .ref 621] _ _ _ _
          refine ev_r_iload_n (pc := 68) (k := 3) (v := Int32.ofInt a2) (by decide +kernel) (by exact e30) ?_
          refine ev_r_jn (Q := fun K => ∀ (y41 : Int64), ∀ (y40 : Int64), ∀ (y39 : Int64), ∀ (s47 : ev_St) (w42 : List (Nat × Value)), ev_lk w42 0 = some (.ref 621) → ev_lk w42 2 = some (.int (Int32.ofInt a1)) → ev_lk w42 3 = some (.int (Int32.ofInt a2)) → ev_lk w42 4 = some (.int (Int32.ofInt x3)) → ev_w none (ev_Mof 245) d 84 w42 [.long y41, .long y40, .long y39, .ref 621] s47 (K y41 y40 y39 s47) ev_eU ev_PU) ?_ ?_
          · intro y41 y40 y39 s47 w42 e43 e44 e45 e46
            refine ev_r_toL (pc := 84) (i := .lor) (len := 1) (pc' := 85) (by decide +kernel) rfl ?_
            intro y48
            refine ev_r_toL (pc := 85) (i := .lor) (len := 1) (pc' := 86) (by decide +kernel) rfl ?_
            intro y49
            refine ev_r_putL (pc := 86) (y := 398) (ci := 13) (f := 42) (by decide +kernel) (by decide +kernel) (by exact ev_ob_621) rfl rfl ?_
            intro s50
            exact hK89  s50 _ (by exact e43) (by exact e44) (by exact e45) (by exact e46)
          · intro K84 hK84
            refine ev_r_if (pc := 69) (q := .eq) (o := 14) (t := 83) (c := a2 = 0) (by decide +kernel) (ev_k_eq ha2 ev_rng0) (by decide +kernel) ?_ ?_
            · intro c51
              refine ev_r_lconst (pc := 83) (c := 0) (by decide +kernel) ?_
              exact hK84 ((Int64.ofNat ((0 : Fin 2) : Nat))) y38 y36 s37 _ (by exact e28) (by exact e29) (by exact e30) (by exact e31)
            · intro c51
              refine ev_r_iload (pc := 72) (k := 4) (v := Int32.ofInt x3) (by decide +kernel) (by exact e31) ?_
              refine ev_r_stat (pc := 74) (y := 401) (kind := 2) (mi := 229) (na := 1) (as := [.int (Int32.ofInt x3)]) (rest := [.long y38, .long y36, .ref 621]) (encc := ev_oI) (Q := ev_rng) (fun x S1 h => jt_229 d (by omega) Q x3 hx3 s37 x S1 h) (Or.inl rfl) (by decide +kernel) (by decide +kernel) (by decide +kernel) (by decide +kernel) rfl (by (try simp only [ev_sum, ev_nv_cat]); first | done | rfl) ?_
              intro x53 s52 hx53
              show ev_w _ _ _ _ _ [.int (Int32.ofInt x53), .long y38, .long y36, .ref 621] _ _ _ _
              refine ev_r_stat (pc := 77) (y := 391) (kind := 2) (mi := 243) (na := 1) (as := [.int (Int32.ofInt x53)]) (rest := [.long y38, .long y36, .ref 621]) (encc := ev_oL) (Q := ev_PU) (fun x S1 h => jt_243 d (by omega) Q x53 hx53 s52 x S1 h) (Or.inl rfl) (by decide +kernel) (by decide +kernel) (by decide +kernel) (by decide +kernel) rfl (by (try simp only [ev_sum, ev_nv_cat]); first | done | rfl) ?_
              intro y55 s54 _
              show ev_w _ _ _ _ _ [.long y55, .long y38, .long y36, .ref 621] _ _ _ _
              refine ev_r_goto (pc := 80) (o := 4) (t := 84) (by decide +kernel) (by decide +kernel) ?_
              exact hK84 y55 y38 y36 s54 _ (by exact e28) (by exact e29) (by exact e30) (by exact e31)
        · intro K53 hK53
          refine ev_r_if (pc := 38) (q := .eq) (o := 14) (t := 52) (c := a2 = 0) (by decide +kernel) (ev_k_eq ha2 ev_rng0) (by decide +kernel) ?_ ?_
          · intro c56
            refine ev_r_lconst (pc := 52) (c := 0) (by decide +kernel) ?_
            exact hK53 ((Int64.ofNat ((0 : Fin 2) : Nat))) y23 y21 s22 _ (by exact e5) (by exact e6) (by exact e7) (by exact e8)
          · intro c56
            refine ev_r_iload (pc := 41) (k := 4) (v := Int32.ofInt x3) (by decide +kernel) (by exact e8) ?_
            refine ev_r_stat (pc := 43) (y := 401) (kind := 2) (mi := 229) (na := 1) (as := [.int (Int32.ofInt x3)]) (rest := [.long y23, .long y21, .ref 621]) (encc := ev_oI) (Q := ev_rng) (fun x S1 h => jt_229 d (by omega) Q x3 hx3 s22 x S1 h) (Or.inl rfl) (by decide +kernel) (by decide +kernel) (by decide +kernel) (by decide +kernel) rfl (by (try simp only [ev_sum, ev_nv_cat]); first | done | rfl) ?_
            intro x58 s57 hx58
            show ev_w _ _ _ _ _ [.int (Int32.ofInt x58), .long y23, .long y21, .ref 621] _ _ _ _
            refine ev_r_stat (pc := 46) (y := 387) (kind := 2) (mi := 242) (na := 1) (as := [.int (Int32.ofInt x58)]) (rest := [.long y23, .long y21, .ref 621]) (encc := ev_oL) (Q := ev_PU) (fun x S1 h => jt_242 d (by omega) Q x58 hx58 s57 x S1 h) (Or.inl rfl) (by decide +kernel) (by decide +kernel) (by decide +kernel) (by decide +kernel) rfl (by (try simp only [ev_sum, ev_nv_cat]); first | done | rfl) ?_
            intro y60 s59 _
            show ev_w _ _ _ _ _ [.long y60, .long y23, .long y21, .ref 621] _ _ _ _
            refine ev_r_goto (pc := 49) (o := 4) (t := 53) (by decide +kernel) (by decide +kernel) ?_
            exact hK53 y60 y23 y21 s59 _ (by exact e5) (by exact e6) (by exact e7) (by exact e8)
theorem jlt_245_13 (d : Nat) (hd : 5 ≤ d + 1) (Q : Nat) (a1 : Int) (a2 : Int) (ha1 : ev_rng a1) (ha2 : ev_rng a2)   : ∀ q : Nat, ∀ (x3 : Int) (hx3 : ev_rng x3), ∀ (s9 : ev_St) (w4 : List (Nat × Value)), ev_lk w4 0 = some (.ref 621) → ev_lk w4 2 = some (.int (Int32.ofInt a1)) → ev_lk w4 3 = some (.int (Int32.ofInt a2)) → ev_lk w4 4 = some (.int (Int32.ofInt x3)) → ev_w none (ev_Mof 245) d 13 w4 [] s9 (jl_245_13 Q a1 a2  q x3 s9) ev_eU ev_PU := by
  intro q
  induction q with
  | zero =>
    intro x3 hx3 s9 w4 e5 e6 e7 e8
    exact ev_w_none
  | succ q ih => exact jbt_245_13 d hd Q a1 a2 ha1 ha2   _ ih
/-- MendBenchModel.ranges(IIZ)V -/
def jm_245 (Q : Nat) (a0 : Int) (a1 : Int) (a2 : Int) (S : ev_St) : Option ((Unit) × ev_St) := ev_b (ev_pL S 621 41 ((Int64.ofNat ((0 : Fin 2) : Nat)))) fun s1 => ev_b (ev_pL s1 621 42 ((Int64.ofNat ((0 : Fin 2) : Nat)))) fun s2 => jl_245_13 Q a1 a2  Q a0 s2
theorem jt_245 (d : Nat) (hd : 5 ≤ d) (Q : Nat) (a0 : Int) (a1 : Int) (a2 : Int) (ha0 : ev_rng a0) (ha1 : ev_rng a1) (ha2 : ev_rng a2) (S : ev_St) (x : Unit) (S' : ev_St) (hJ : jm_245 Q a0 a1 a2 S = some (x, S')) : ev_Ref d 245 [.ref 621, .int (Int32.ofInt a0), .int (Int32.ofInt a1), .int (Int32.ofInt a2)] S (ev_eU x) S' (ev_PU x) := by
  obtain ⟨d, rfl⟩ : ∃ e, d = e + 1 := ⟨d - 1, by omega⟩
  refine ev_ref_of (P := ev_PU) (lv := [(0, .ref 621), (1, .int (Int32.ofInt a0)), (2, .int (Int32.ofInt a1)), (3, .int (Int32.ofInt a2))]) (by decide +kernel) (by (try simp only [ev_sum, ev_nv_cat]); first | done | rfl) (by (try simp only [lv_args, ev_nv_cat]); first | done | rfl) ?_ x S' hJ
  unfold jm_245
  refine ev_r_aload_n (pc := 0) (k := 0) (v := .ref 621) trivial (by decide +kernel) (by rfl) ?_
  refine ev_r_lconst (pc := 1) (c := 0) (by decide +kernel) ?_
  refine ev_r_putL (pc := 2) (y := 394) (ci := 13) (f := 41) (by decide +kernel) (by decide +kernel) (by exact ev_ob_621) rfl rfl ?_
  intro s1
  refine ev_r_aload_n (pc := 5) (k := 0) (v := .ref 621) trivial (by decide +kernel) (by rfl) ?_
  refine ev_r_lconst (pc := 6) (c := 0) (by decide +kernel) ?_
  refine ev_r_putL (pc := 7) (y := 398) (ci := 13) (f := 42) (by decide +kernel) (by decide +kernel) (by exact ev_ob_621) rfl rfl ?_
  intro s2
  refine ev_r_iload_n (pc := 10) (k := 1) (v := Int32.ofInt a0) (by decide +kernel) (by rfl) ?_
  refine ev_r_istore (pc := 11) (k := 4) (by decide +kernel) (by decide +kernel) rfl ?_
  exact jlt_245_13 d hd Q a1 a2 ha1 ha2   Q a0 ha0 s2 _ (by exact (ev_l1 (by rfl) (by decide) (by decide))) (by exact (ev_l1 (by rfl) (by decide) (by decide))) (by exact (ev_lk_st1 (by rfl) (by decide) rfl)) (by exact ev_lk_st1_self)
def jb_246_18 (Q : Nat) (a0 : Int)  (K18 : Int → Int → ev_St → Option ((Unit) × ev_St)) (x4 : Int) (x5 : Int) (s11 : ev_St) : Option ((Unit) × ev_St) := if 127 ≤ x5 then (some ((), s11)) else (ev_jn (fun (x13 : Int) (s19 : ev_St) => ev_bd (jm_223 Q x5 s19) fun x21 s20 => ev_jn (fun  (s27 : ev_St) => ev_ck (x5 + 1) fun x28 => K18 x4 x28 s27) fun K111 => if x21 = 0 then (K111  s20) else (ev_bd (jm_224 Q a0 s20) fun x31 s30 => if x13 ≠ x31 then (K111  s30) else (ev_b (s30.2.1 621 41) fun y33 => ev_bd (jm_242 Q x5 s30) fun y35 s34 => ev_b (y33 ||| y35) fun y36 => ev_b (ev_pL s34 621 41 y36) fun s37 => ev_b (s37.2.1 621 42) fun y38 => ev_bd (jm_243 Q x5 s37) fun y40 s39 => ev_b (y38 ||| y40) fun y41 => ev_b (ev_pL s39 621 42 y41) fun s42 => K111  s42))) fun K67 => if x4 ≠ 100 then (if x4 ≠ 119 then (ev_jn (fun  (s50 : ev_St) => K67 1 s50) fun K62 => if x5 = 32 then (K62  s11) else (if x5 ≠ 10 then (K67 0 s11) else (K62  s11))) else (ev_bd (jm_227 Q x5 s11) fun x54 s53 => K67 x54 s53)) else (ev_bd (jm_226 Q x5 s11) fun x56 s55 => K67 x56 s55))
def jl_246_18 (Q : Nat) (a0 : Int)  : Nat → Int → Int → ev_St → Option ((Unit) × ev_St)
  | 0 => fun _ _ _ => none
  | q + 1 => jb_246_18 Q a0  (jl_246_18 Q a0  q)
theorem jbt_246_18 (d : Nat) (hd : 5 ≤ d + 1) (Q : Nat) (a0 : Int) (ha0 : ev_rng a0)   (K18 : Int → Int → ev_St → Option ((Unit) × ev_St)) (hK18 : ∀ (x4 : Int) (hx4 : ev_rng x4), ∀ (x5 : Int) (hx5 : ev_rng x5), ∀ (s11 : ev_St) (w6 : List (Nat × Value)), ev_lk w6 0 = some (.ref 621) → ev_lk w6 1 = some (.int (Int32.ofInt a0)) → ev_lk w6 2 = some (.int (Int32.ofInt x4)) → ev_lk w6 3 = some (.int (Int32.ofInt x5)) → ev_w none (ev_Mof 246) d 18 w6 [] s11 (K18 x4 x5 s11) ev_eU ev_PU) : ∀ (x4 : Int) (hx4 : ev_rng x4), ∀ (x5 : Int) (hx5 : ev_rng x5), ∀ (s11 : ev_St) (w6 : List (Nat × Value)), ev_lk w6 0 = some (.ref 621) → ev_lk w6 1 = some (.int (Int32.ofInt a0)) → ev_lk w6 2 = some (.int (Int32.ofInt x4)) → ev_lk w6 3 = some (.int (Int32.ofInt x5)) → ev_w none (ev_Mof 246) d 18 w6 [] s11 (jb_246_18 Q a0  K18 x4 x5 s11) ev_eU ev_PU := by
  intro x4 hx4 x5 hx5 s11 w6 e7 e8 e9 e10
  unfold jb_246_18
  refine ev_r_iload_n (pc := 18) (k := 3) (v := Int32.ofInt x5) (by decide +kernel) (by exact e10) ?_
  refine ev_r_bipush (pc := 19) (k := 127) (by decide +kernel) (by decide +kernel) ?_
  refine ev_r_icmp (pc := 21) (q := .ge) (o := 96) (t := 117) (c := 127 ≤ x5) (by decide +kernel) (ev_k_ge hx5 (by decide)) (by decide +kernel) ?_ ?_
  · intro c12
    exact ev_r_return (pc := 117) (x := ()) trivial (by decide +kernel) (by decide +kernel) rfl
  · intro c12
    refine ev_r_iload_n (pc := 24) (k := 2) (v := Int32.ofInt x4) (by decide +kernel) (by exact e9) ?_
    refine ev_r_bipush (pc := 25) (k := 100) (by decide +kernel) (by decide +kernel) ?_
    refine ev_r_jn (Q := fun K => ∀ (x13 : Int) (hx13 : ev_rng x13), ∀ (s19 : ev_St) (w14 : List (Nat × Value)), ev_lk w14 0 = some (.ref 621) → ev_lk w14 1 = some (.int (Int32.ofInt a0)) → ev_lk w14 2 = some (.int (Int32.ofInt x4)) → ev_lk w14 3 = some (.int (Int32.ofInt x5)) → ev_w none (ev_Mof 246) d 67 w14 [.int (Int32.ofInt x13)] s19 (K x13 s19) ev_eU ev_PU) ?_ ?_
    · intro x13 hx13 s19 w14 e15 e16 e17 e18
      refine ev_r_istore (pc := 67) (k := 4) (by decide +kernel) (by decide +kernel) rfl ?_
      refine ev_r_iload_n (pc := 69) (k := 3) (v := Int32.ofInt x5) (by decide +kernel) (by exact (ev_lk_st1 e18 (by decide) rfl)) ?_
      refine ev_r_stat (pc := 70) (y := 339) (kind := 2) (mi := 223) (na := 1) (as := [.int (Int32.ofInt x5)]) (rest := []) (encc := ev_oI) (Q := ev_bl) (fun x S1 h => jt_223 d (by omega) Q x5 hx5 s19 x S1 h) (Or.inl rfl) (by decide +kernel) (by decide +kernel) (by decide +kernel) (by decide +kernel) rfl (by (try simp only [ev_sum, ev_nv_cat]); first | done | rfl) ?_
      intro x21 s20 hx21
      replace hx21 := ev_bl_rng hx21
      show ev_w _ _ _ _ _ [.int (Int32.ofInt x21)] _ _ _ _
      refine ev_r_jn (Q := fun K => ∀ (s27 : ev_St) (w22 : List (Nat × Value)), ev_lk w22 0 = some (.ref 621) → ev_lk w22 1 = some (.int (Int32.ofInt a0)) → ev_lk w22 2 = some (.int (Int32.ofInt x4)) → ev_lk w22 3 = some (.int (Int32.ofInt x5)) → ev_w none (ev_Mof 246) d 111 w22 [] s27 (K  s27) ev_eU ev_PU) ?_ ?_
      · intro  s27 w22 e23 e24 e25 e26
        refine ev_r_iinc (pc := 111) (k := 3) (c := 1) (x := x5) (by decide +kernel) (by decide +kernel) (by exact e26) (fun _ => rfl) ?_
        intro x28 hx28
        refine ev_r_goto (pc := 114) (o := (-96)) (t := 18) (by decide +kernel) (by decide +kernel) ?_
        exact hK18 x4 hx4 x28 hx28 s27 _ (by exact (ev_l1 e23 (by decide) (by decide))) (by exact (ev_l1 e24 (by decide) (by decide))) (by exact (ev_lk_st1 e25 (by decide) rfl)) (by exact ev_lk_st1_self)
      · intro K111 hK111
        refine ev_r_if (pc := 73) (q := .eq) (o := 38) (t := 111) (c := x21 = 0) (by decide +kernel) (ev_k_eq hx21 ev_rng0) (by decide +kernel) ?_ ?_
        · intro c29
          exact hK111  s20 _ (by exact (ev_l1 e15 (by decide) (by decide))) (by exact (ev_l1 e16 (by decide) (by decide))) (by exact (ev_l1 e17 (by decide) (by decide))) (by exact (ev_lk_st1 e18 (by decide) rfl))
        · intro c29
          refine ev_r_iload (pc := 76) (k := 4) (v := Int32.ofInt x13) (by decide +kernel) (by exact ev_lk_st1_self) ?_
          refine ev_r_iload_n (pc := 78) (k := 1) (v := Int32.ofInt a0) (by decide +kernel) (by exact (ev_l1 e16 (by decide) (by decide))) ?_
          refine ev_r_stat (pc := 79) (y := 329) (kind := 2) (mi := 224) (na := 1) (as := [.int (Int32.ofInt a0)]) (rest := [.int (Int32.ofInt x13)]) (encc := ev_oI) (Q := ev_bl) (fun x S1 h => jt_224 d (by omega) Q a0 ha0 s20 x S1 h) (Or.inl rfl) (by decide +kernel) (by decide +kernel) (by decide +kernel) (by decide +kernel) rfl (by (try simp only [ev_sum, ev_nv_cat]); first | done | rfl) ?_
          intro x31 s30 hx31
          replace hx31 := ev_bl_rng hx31
          show ev_w _ _ _ _ _ [.int (Int32.ofInt x31), .int (Int32.ofInt x13)] _ _ _ _
          refine ev_r_icmp (pc := 82) (q := .ne) (o := 29) (t := 111) (c := x13 ≠ x31) (by decide +kernel) (ev_k_ne hx13 hx31) (by decide +kernel) ?_ ?_
          · intro c32
            exact hK111  s30 _ (by exact (ev_l1 e15 (by decide) (by decide))) (by exact (ev_l1 e16 (by decide) (by decide))) (by exact (ev_l1 e17 (by decide) (by decide))) (by exact (ev_lk_st1 e18 (by decide) rfl))
          · intro c32
            refine ev_r_aload_n (pc := 85) (k := 0) (v := .ref 621) trivial (by decide +kernel) (by exact (ev_l1 e15 (by decide) (by decide))) ?_
            refine ev_r_dup (pc := 86) rfl (by decide +kernel) ?_
            refine ev_r_getL (pc := 87) (y := 394) (ci := 13) (f := 41) (fin := 0) (by decide +kernel) (by decide +kernel) (by exact ev_ob_621) rfl ?_
            intro y33
            refine ev_r_iload_n (pc := 90) (k := 3) (v := Int32.ofInt x5) (by decide +kernel) (by exact (ev_lk_st1 e18 (by decide) rfl)) ?_
            refine ev_r_stat (pc := 91) (y := 387) (kind := 2) (mi := 242) (na := 1) (as := [.int (Int32.ofInt x5)]) (rest := [.long y33, .ref 621]) (encc := ev_oL) (Q := ev_PU) (fun x S1 h => jt_242 d (by omega) Q x5 hx5 s30 x S1 h) (Or.inl rfl) (by decide +kernel) (by decide +kernel) (by decide +kernel) (by decide +kernel) rfl (by (try simp only [ev_sum, ev_nv_cat]); first | done | rfl) ?_
            intro y35 s34 _
            show ev_w _ _ _ _ _ [.long y35, .long y33, .ref 621] _ _ _ _
            refine ev_r_toL (pc := 94) (i := .lor) (len := 1) (pc' := 95) (by decide +kernel) rfl ?_
            intro y36
            refine ev_r_putL (pc := 95) (y := 394) (ci := 13) (f := 41) (by decide +kernel) (by decide +kernel) (by exact ev_ob_621) rfl rfl ?_
            intro s37
            refine ev_r_aload_n (pc := 98) (k := 0) (v := .ref 621) trivial (by decide +kernel) (by exact (ev_l1 e15 (by decide) (by decide))) ?_
            refine ev_r_dup (pc := 99) rfl (by decide +kernel) ?_
            refine ev_r_getL (pc := 100) (y := 398) (ci := 13) (f := 42) (fin := 0) (by decide +kernel) (by decide +kernel) (by exact ev_ob_621) rfl ?_
            intro y38
            refine ev_r_iload_n (pc := 103) (k := 3) (v := Int32.ofInt x5) (by decide +kernel) (by exact (ev_lk_st1 e18 (by decide) rfl)) ?_
            refine ev_r_stat (pc := 104) (y := 391) (kind := 2) (mi := 243) (na := 1) (as := [.int (Int32.ofInt x5)]) (rest := [.long y38, .ref 621]) (encc := ev_oL) (Q := ev_PU) (fun x S1 h => jt_243 d (by omega) Q x5 hx5 s37 x S1 h) (Or.inl rfl) (by decide +kernel) (by decide +kernel) (by decide +kernel) (by decide +kernel) rfl (by (try simp only [ev_sum, ev_nv_cat]); first | done | rfl) ?_
            intro y40 s39 _
            show ev_w _ _ _ _ _ [.long y40, .long y38, .ref 621] _ _ _ _
            refine ev_r_toL (pc := 107) (i := .lor) (len := 1) (pc' := 108) (by decide +kernel) rfl ?_
            intro y41
            refine ev_r_putL (pc := 108) (y := 398) (ci := 13) (f := 42) (by decide +kernel) (by decide +kernel) (by exact ev_ob_621) rfl rfl ?_
            intro s42
            exact hK111  s42 _ (by exact (ev_l1 e15 (by decide) (by decide))) (by exact (ev_l1 e16 (by decide) (by decide))) (by exact (ev_l1 e17 (by decide) (by decide))) (by exact (ev_lk_st1 e18 (by decide) rfl))
    · intro K67 hK67
      refine ev_r_icmp (pc := 27) (q := .ne) (o := 10) (t := 37) (c := x4 ≠ 100) (by decide +kernel) (ev_k_ne hx4 (by decide)) (by decide +kernel) ?_ ?_
      · intro c43
        refine ev_r_iload_n (pc := 37) (k := 2) (v := Int32.ofInt x4) (by decide +kernel) (by exact e9) ?_
        refine ev_r_bipush (pc := 38) (k := 119) (by decide +kernel) (by decide +kernel) ?_
        refine ev_r_icmp (pc := 40) (q := .ne) (o := 10) (t := 50) (c := x4 ≠ 119) (by decide +kernel) (ev_k_ne hx4 (by decide)) (by decide +kernel) ?_ ?_
        · intro c44
          refine ev_r_iload_n (pc := 50) (k := 3) (v := Int32.ofInt x5) (by decide +kernel) (by exact e10) ?_
          refine ev_r_bipush (pc := 51) (k := 32) (by decide +kernel) (by decide +kernel) ?_
          refine ev_r_jn (Q := fun K => ∀ (s50 : ev_St) (w45 : List (Nat × Value)), ev_lk w45 0 = some (.ref 621) → ev_lk w45 1 = some (.int (Int32.ofInt a0)) → ev_lk w45 2 = some (.int (Int32.ofInt x4)) → ev_lk w45 3 = some (.int (Int32.ofInt x5)) → ev_w none (ev_Mof 246) d 62 w45 [] s50 (K  s50) ev_eU ev_PU) ?_ ?_
          · intro  s50 w45 e46 e47 e48 e49
            refine ev_r_iconst (pc := 62) (k := 1) (by decide +kernel) ?_
            refine ev_r_goto (pc := 63) (o := 4) (t := 67) (by decide +kernel) (by decide +kernel) ?_
            exact hK67 1 (by decide) s50 _ (by exact e46) (by exact e47) (by exact e48) (by exact e49)
          · intro K62 hK62
            refine ev_r_icmp (pc := 53) (q := .eq) (o := 9) (t := 62) (c := x5 = 32) (by decide +kernel) (ev_k_eq hx5 (by decide)) (by decide +kernel) ?_ ?_
            · intro c51
              exact hK62  s11 _ (by exact e7) (by exact e8) (by exact e9) (by exact e10)
            · intro c51
              refine ev_r_iload_n (pc := 56) (k := 3) (v := Int32.ofInt x5) (by decide +kernel) (by exact e10) ?_
              refine ev_r_bipush (pc := 57) (k := 10) (by decide +kernel) (by decide +kernel) ?_
              refine ev_r_icmp (pc := 59) (q := .ne) (o := 7) (t := 66) (c := x5 ≠ 10) (by decide +kernel) (ev_k_ne hx5 (by decide)) (by decide +kernel) ?_ ?_
              · intro c52
                refine ev_r_iconst (pc := 66) (k := 0) (by decide +kernel) ?_
                exact hK67 0 (by decide) s11 _ (by exact e7) (by exact e8) (by exact e9) (by exact e10)
              · intro c52
                exact hK62  s11 _ (by exact e7) (by exact e8) (by exact e9) (by exact e10)
        · intro c44
          refine ev_r_iload_n (pc := 43) (k := 3) (v := Int32.ofInt x5) (by decide +kernel) (by exact e10) ?_
          refine ev_r_stat (pc := 44) (y := 404) (kind := 2) (mi := 227) (na := 1) (as := [.int (Int32.ofInt x5)]) (rest := []) (encc := ev_oI) (Q := ev_bl) (fun x S1 h => jt_227 d (by omega) Q x5 hx5 s11 x S1 h) (Or.inl rfl) (by decide +kernel) (by decide +kernel) (by decide +kernel) (by decide +kernel) rfl (by (try simp only [ev_sum, ev_nv_cat]); first | done | rfl) ?_
          intro x54 s53 hx54
          replace hx54 := ev_bl_rng hx54
          show ev_w _ _ _ _ _ [.int (Int32.ofInt x54)] _ _ _ _
          refine ev_r_goto (pc := 47) (o := 20) (t := 67) (by decide +kernel) (by decide +kernel) ?_
          exact hK67 x54 hx54 s53 _ (by exact e7) (by exact e8) (by exact e9) (by exact e10)
      · intro c43
        refine ev_r_iload_n (pc := 30) (k := 3) (v := Int32.ofInt x5) (by decide +kernel) (by exact e10) ?_
        refine ev_r_stat (pc := 31) (y := 336) (kind := 2) (mi := 226) (na := 1) (as := [.int (Int32.ofInt x5)]) (rest := []) (encc := ev_oI) (Q := ev_bl) (fun x S1 h => jt_226 d (by omega) Q x5 hx5 s11 x S1 h) (Or.inl rfl) (by decide +kernel) (by decide +kernel) (by decide +kernel) (by decide +kernel) rfl (by (try simp only [ev_sum, ev_nv_cat]); first | done | rfl) ?_
        intro x56 s55 hx56
        replace hx56 := ev_bl_rng hx56
        show ev_w _ _ _ _ _ [.int (Int32.ofInt x56)] _ _ _ _
        refine ev_r_goto (pc := 34) (o := 33) (t := 67) (by decide +kernel) (by decide +kernel) ?_
        exact hK67 x56 hx56 s55 _ (by exact e7) (by exact e8) (by exact e9) (by exact e10)
theorem jlt_246_18 (d : Nat) (hd : 5 ≤ d + 1) (Q : Nat) (a0 : Int) (ha0 : ev_rng a0)   : ∀ q : Nat, ∀ (x4 : Int) (hx4 : ev_rng x4), ∀ (x5 : Int) (hx5 : ev_rng x5), ∀ (s11 : ev_St) (w6 : List (Nat × Value)), ev_lk w6 0 = some (.ref 621) → ev_lk w6 1 = some (.int (Int32.ofInt a0)) → ev_lk w6 2 = some (.int (Int32.ofInt x4)) → ev_lk w6 3 = some (.int (Int32.ofInt x5)) → ev_w none (ev_Mof 246) d 18 w6 [] s11 (jl_246_18 Q a0  q x4 x5 s11) ev_eU ev_PU := by
  intro q
  induction q with
  | zero =>
    intro x4 hx4 x5 hx5 s11 w6 e7 e8 e9 e10
    exact ev_w_none
  | succ q ih => exact jbt_246_18 d hd Q a0 ha0   _ ih
/-- MendBenchModel.sorts(I)V -/
def jm_246 (Q : Nat) (a0 : Int) (S : ev_St) : Option ((Unit) × ev_St) := ev_b (ev_ior a0 32) fun x1 => ev_b (ev_pL S 621 41 ((Int64.ofNat ((0 : Fin 2) : Nat)))) fun s2 => ev_b (ev_pL s2 621 42 ((Int64.ofNat ((0 : Fin 2) : Nat)))) fun s3 => jl_246_18 Q a0  Q x1 10 s3
theorem jt_246 (d : Nat) (hd : 5 ≤ d) (Q : Nat) (a0 : Int) (ha0 : ev_rng a0) (S : ev_St) (x : Unit) (S' : ev_St) (hJ : jm_246 Q a0 S = some (x, S')) : ev_Ref d 246 [.ref 621, .int (Int32.ofInt a0)] S (ev_eU x) S' (ev_PU x) := by
  obtain ⟨d, rfl⟩ : ∃ e, d = e + 1 := ⟨d - 1, by omega⟩
  refine ev_ref_of (P := ev_PU) (lv := [(0, .ref 621), (1, .int (Int32.ofInt a0))]) (by decide +kernel) (by (try simp only [ev_sum, ev_nv_cat]); first | done | rfl) (by (try simp only [lv_args, ev_nv_cat]); first | done | rfl) ?_ x S' hJ
  unfold jm_246
  refine ev_r_iload_n (pc := 0) (k := 1) (v := Int32.ofInt a0) (by decide +kernel) (by rfl) ?_
  refine ev_r_bipush (pc := 1) (k := 32) (by decide +kernel) (by decide +kernel) ?_
  refine ev_r_ior (pc := 3) (by decide +kernel) ?_
  intro x1 hx1
  refine ev_r_istore_n (pc := 4) (k := 2) (by decide +kernel) (by decide +kernel) rfl ?_
  refine ev_r_aload_n (pc := 5) (k := 0) (v := .ref 621) trivial (by decide +kernel) (by exact (ev_l1 (by rfl) (by decide) (by decide))) ?_
  refine ev_r_lconst (pc := 6) (c := 0) (by decide +kernel) ?_
  refine ev_r_putL (pc := 7) (y := 394) (ci := 13) (f := 41) (by decide +kernel) (by decide +kernel) (by exact ev_ob_621) rfl rfl ?_
  intro s2
  refine ev_r_aload_n (pc := 10) (k := 0) (v := .ref 621) trivial (by decide +kernel) (by exact (ev_l1 (by rfl) (by decide) (by decide))) ?_
  refine ev_r_lconst (pc := 11) (c := 0) (by decide +kernel) ?_
  refine ev_r_putL (pc := 12) (y := 398) (ci := 13) (f := 42) (by decide +kernel) (by decide +kernel) (by exact ev_ob_621) rfl rfl ?_
  intro s3
  refine ev_r_bipush (pc := 15) (k := 10) (by decide +kernel) (by decide +kernel) ?_
  refine ev_r_istore_n (pc := 17) (k := 3) (by decide +kernel) (by decide +kernel) rfl ?_
  exact jlt_246_18 d hd Q a0 ha0   Q x1 hx1 10 (by decide) s3 _ (by exact (ev_l1 (ev_l1 (by rfl) (by decide) (by decide)) (by decide) (by decide))) (by exact (ev_l1 (ev_lk_st1 (by rfl) (by decide) rfl) (by decide) (by decide))) (by exact (ev_lk_st1 ev_lk_st1_self (by decide) rfl)) (by exact ev_lk_st1_self)
/-- MendBenchModel.isSort(I)Z -/
def jm_247 (Q : Nat) (a0 : Int) (S : ev_St) : Option ((Int) × ev_St) := ev_b (ev_ior a0 32) fun x1 => ev_bd (jm_225 Q a0 S) fun x3 s2 => if x3 = 0 then (some (0, s2)) else (if x1 = 100 then (some (1, s2)) else (if x1 = 119 then (some (1, s2)) else (if x1 ≠ 115 then (some (0, s2)) else (some (1, s2)))))
theorem jt_247 (d : Nat) (hd : 4 ≤ d) (Q : Nat) (a0 : Int) (ha0 : ev_rng a0) (S : ev_St) (x : Int) (S' : ev_St) (hJ : jm_247 Q a0 S = some (x, S')) : ev_Ref d 247 [.int (Int32.ofInt a0)] S (ev_eI x) S' (ev_bl x) := by
  obtain ⟨d, rfl⟩ : ∃ e, d = e + 1 := ⟨d - 1, by omega⟩
  refine ev_ref_of (P := ev_bl) (lv := [(0, .int (Int32.ofInt a0))]) (by decide +kernel) (by (try simp only [ev_sum, ev_nv_cat]); first | done | rfl) (by (try simp only [lv_args, ev_nv_cat]); first | done | rfl) ?_ x S' hJ
  unfold jm_247
  refine ev_r_iload_n (pc := 0) (k := 0) (v := Int32.ofInt a0) (by decide +kernel) (by rfl) ?_
  refine ev_r_bipush (pc := 1) (k := 32) (by decide +kernel) (by decide +kernel) ?_
  refine ev_r_ior (pc := 3) (by decide +kernel) ?_
  intro x1 hx1
  refine ev_r_istore_n (pc := 4) (k := 1) (by decide +kernel) (by decide +kernel) rfl ?_
  refine ev_r_iload_n (pc := 5) (k := 0) (v := Int32.ofInt a0) (by decide +kernel) (by exact (ev_lk_st1 (by rfl) (by decide) rfl)) ?_
  refine ev_r_stat (pc := 6) (y := 333) (kind := 2) (mi := 225) (na := 1) (as := [.int (Int32.ofInt a0)]) (rest := []) (encc := ev_oI) (Q := ev_bl) (fun x S1 h => jt_225 d (by omega) Q a0 ha0 S x S1 h) (Or.inl rfl) (by decide +kernel) (by decide +kernel) (by decide +kernel) (by decide +kernel) rfl (by (try simp only [ev_sum, ev_nv_cat]); first | done | rfl) ?_
  intro x3 s2 hx3
  replace hx3 := ev_bl_rng hx3
  show ev_w _ _ _ _ _ [.int (Int32.ofInt x3)] _ _ _ _
  refine ev_r_if (pc := 9) (q := .eq) (o := 25) (t := 34) (c := x3 = 0) (by decide +kernel) (ev_k_eq hx3 ev_rng0) (by decide +kernel) ?_ ?_
  · intro c4
    refine ev_r_iconst (pc := 34) (k := 0) (by decide +kernel) ?_
    exact ev_r_ireturn (pc := 35) (x := 0) (v := Int32.ofInt 0) (ty := .boolean) (by decide : ev_bl 0) (by decide +kernel) (by decide +kernel) (ev_ret_bl (by decide : ev_bl 0)) rfl
  · intro c4
    refine ev_r_iload_n (pc := 12) (k := 1) (v := Int32.ofInt x1) (by decide +kernel) (by exact ev_lk_st1_self) ?_
    refine ev_r_bipush (pc := 13) (k := 100) (by decide +kernel) (by decide +kernel) ?_
    refine ev_r_icmp (pc := 15) (q := .eq) (o := 15) (t := 30) (c := x1 = 100) (by decide +kernel) (ev_k_eq hx1 (by decide)) (by decide +kernel) ?_ ?_
    · intro c5
      refine ev_r_iconst (pc := 30) (k := 1) (by decide +kernel) ?_
      refine ev_r_goto (pc := 31) (o := 4) (t := 35) (by decide +kernel) (by decide +kernel) ?_
      exact ev_r_ireturn (pc := 35) (x := 1) (v := Int32.ofInt 1) (ty := .boolean) (by decide : ev_bl 1) (by decide +kernel) (by decide +kernel) (ev_ret_bl (by decide : ev_bl 1)) rfl
    · intro c5
      refine ev_r_iload_n (pc := 18) (k := 1) (v := Int32.ofInt x1) (by decide +kernel) (by exact ev_lk_st1_self) ?_
      refine ev_r_bipush (pc := 19) (k := 119) (by decide +kernel) (by decide +kernel) ?_
      refine ev_r_icmp (pc := 21) (q := .eq) (o := 9) (t := 30) (c := x1 = 119) (by decide +kernel) (ev_k_eq hx1 (by decide)) (by decide +kernel) ?_ ?_
      · intro c6
        refine ev_r_iconst (pc := 30) (k := 1) (by decide +kernel) ?_
        refine ev_r_goto (pc := 31) (o := 4) (t := 35) (by decide +kernel) (by decide +kernel) ?_
        exact ev_r_ireturn (pc := 35) (x := 1) (v := Int32.ofInt 1) (ty := .boolean) (by decide : ev_bl 1) (by decide +kernel) (by decide +kernel) (ev_ret_bl (by decide : ev_bl 1)) rfl
      · intro c6
        refine ev_r_iload_n (pc := 24) (k := 1) (v := Int32.ofInt x1) (by decide +kernel) (by exact ev_lk_st1_self) ?_
        refine ev_r_bipush (pc := 25) (k := 115) (by decide +kernel) (by decide +kernel) ?_
        refine ev_r_icmp (pc := 27) (q := .ne) (o := 7) (t := 34) (c := x1 ≠ 115) (by decide +kernel) (ev_k_ne hx1 (by decide)) (by decide +kernel) ?_ ?_
        · intro c7
          refine ev_r_iconst (pc := 34) (k := 0) (by decide +kernel) ?_
          exact ev_r_ireturn (pc := 35) (x := 0) (v := Int32.ofInt 0) (ty := .boolean) (by decide : ev_bl 0) (by decide +kernel) (by decide +kernel) (ev_ret_bl (by decide : ev_bl 0)) rfl
        · intro c7
          refine ev_r_iconst (pc := 30) (k := 1) (by decide +kernel) ?_
          refine ev_r_goto (pc := 31) (o := 4) (t := 35) (by decide +kernel) (by decide +kernel) ?_
          exact ev_r_ireturn (pc := 35) (x := 1) (v := Int32.ofInt 1) (ty := .boolean) (by decide : ev_bl 1) (by decide +kernel) (by decide +kernel) (ev_ret_bl (by decide : ev_bl 1)) rfl
/-- MendBenchModel.joins(I)V -/
def jm_248 (Q : Nat) (a0 : Int) (S : ev_St) : Option ((Unit) × ev_St) := ev_b (S.1 621 25) fun x1 => ev_jn (fun (x2 : Int) (s6 : ev_St) => ev_if (ev_bl x2) (ev_b (ev_pI s6 621 25 x2) fun s7 => ev_if ((0 : Int) ≤ a0 ∧ a0 < (ev_aln 657 : Int)) (ev_b (s7.1 657 (Int.toNat a0)) fun x9 => ev_jn (fun (y12 : Int64) (x11 : Int) (r10 : Nat) (s16 : ev_St) => ev_if ((0 : Int) ≤ x11 ∧ x11 < (ev_aln r10 : Int)) (ev_b (ev_pL s16 r10 (Int.toNat x11) y12) fun s17 => ev_if ((0 : Int) ≤ a0 ∧ a0 < (ev_aln 657 : Int)) (ev_b (s17.1 657 (Int.toNat a0)) fun x18 => ev_jn (fun (y21 : Int64) (x20 : Int) (r19 : Nat) (s25 : ev_St) => ev_if ((0 : Int) ≤ x20 ∧ x20 < (ev_aln r19 : Int)) (ev_b (ev_pL s25 r19 (Int.toNat x20) y21) fun s26 => ev_if ((0 : Int) ≤ a0 ∧ a0 < (ev_aln 653 : Int)) (ev_b (ev_pL s26 653 (Int.toNat a0) ((Int64.ofNat ((0 : Fin 2) : Nat)))) fun s27 => ev_if ((0 : Int) ≤ a0 ∧ a0 < (ev_aln 654 : Int)) (ev_b (ev_pL s27 654 (Int.toNat a0) ((Int64.ofNat ((0 : Fin 2) : Nat)))) fun s28 => ev_if ((0 : Int) ≤ a0 ∧ a0 < (ev_aln 656 : Int)) (ev_b (ev_pI s28 656 (Int.toNat a0) 0) fun s29 => some ((), s29)))))) fun K158 => if x18 ≠ 0 then (ev_if ((0 : Int) ≤ a0 ∧ a0 < (ev_aln 657 : Int)) (ev_b (s17.1 657 (Int.toNat a0)) fun x31 => if x31 ≠ 1 then (ev_if ((0 : Int) ≤ a0 ∧ a0 < (ev_aln 652 : Int)) (ev_b (s17.2.1 652 (Int.toNat a0)) fun y33 => ev_if ((0 : Int) ≤ a0 ∧ a0 < (ev_aln 654 : Int)) (ev_b (s17.2.1 654 (Int.toNat a0)) fun y34 => ev_b (y34 ^^^ (-1)) fun y35 => ev_b (y33 &&& y35) fun y36 => K158 y36 a0 652 s17))) else (ev_if ((0 : Int) ≤ a0 ∧ a0 < (ev_aln 652 : Int)) (ev_b (s17.2.1 652 (Int.toNat a0)) fun y37 => ev_if ((0 : Int) ≤ a0 ∧ a0 < (ev_aln 654 : Int)) (ev_b (s17.2.1 654 (Int.toNat a0)) fun y38 => ev_b (y37 &&& y38) fun y39 => K158 y39 a0 652 s17))))) else (ev_if ((0 : Int) ≤ a0 ∧ a0 < (ev_aln 654 : Int)) (ev_b (s17.2.1 654 (Int.toNat a0)) fun y40 => K158 y40 a0 652 s17))))) fun K91 => if x9 ≠ 0 then (ev_if ((0 : Int) ≤ a0 ∧ a0 < (ev_aln 657 : Int)) (ev_b (s7.1 657 (Int.toNat a0)) fun x42 => if x42 ≠ 1 then (ev_if ((0 : Int) ≤ a0 ∧ a0 < (ev_aln 651 : Int)) (ev_b (s7.2.1 651 (Int.toNat a0)) fun y44 => ev_if ((0 : Int) ≤ a0 ∧ a0 < (ev_aln 653 : Int)) (ev_b (s7.2.1 653 (Int.toNat a0)) fun y45 => ev_b (y45 ^^^ (-1)) fun y46 => ev_b (y44 &&& y46) fun y47 => K91 y47 a0 651 s7))) else (ev_if ((0 : Int) ≤ a0 ∧ a0 < (ev_aln 651 : Int)) (ev_b (s7.2.1 651 (Int.toNat a0)) fun y48 => ev_if ((0 : Int) ≤ a0 ∧ a0 < (ev_aln 653 : Int)) (ev_b (s7.2.1 653 (Int.toNat a0)) fun y49 => ev_b (y48 &&& y49) fun y50 => K91 y50 a0 651 s7))))) else (ev_if ((0 : Int) ≤ a0 ∧ a0 < (ev_aln 653 : Int)) (ev_b (s7.2.1 653 (Int.toNat a0)) fun y51 => K91 y51 a0 651 s7))))) fun K22 => ev_jn (fun  (s55 : ev_St) => K22 1 s55) fun K17 => if x1 ≠ 0 then (K17  S) else (ev_if ((0 : Int) ≤ a0 ∧ a0 < (ev_aln 656 : Int)) (ev_b (S.1 656 (Int.toNat a0)) fun x57 => if x57 ≠ 0 then (K22 0 S) else (K17  S)))
theorem jt_248 (d : Nat) (hd : 1 ≤ d) (Q : Nat) (a0 : Int) (ha0 : ev_rng a0) (S : ev_St) (x : Unit) (S' : ev_St) (hJ : jm_248 Q a0 S = some (x, S')) : ev_Ref d 248 [.ref 621, .int (Int32.ofInt a0)] S (ev_eU x) S' (ev_PU x) := by
  obtain ⟨d, rfl⟩ : ∃ e, d = e + 1 := ⟨d - 1, by omega⟩
  refine ev_ref_of (P := ev_PU) (lv := [(0, .ref 621), (1, .int (Int32.ofInt a0))]) (by decide +kernel) (by (try simp only [ev_sum, ev_nv_cat]); first | done | rfl) (by (try simp only [lv_args, ev_nv_cat]); first | done | rfl) ?_ x S' hJ
  unfold jm_248
  refine ev_r_aload_n (pc := 0) (k := 0) (v := .ref 621) trivial (by decide +kernel) (by rfl) ?_
  refine ev_r_aload_n (pc := 1) (k := 0) (v := .ref 621) trivial (by decide +kernel) (by rfl) ?_
  refine ev_r_getI (pc := 2) (y := 352) (ci := 13) (f := 25) (fin := 0) (by decide +kernel) (by decide +kernel) (by exact ev_ob_621) rfl ?_
  intro x1 hx1
  refine ev_r_jn (Q := fun K => ∀ (x2 : Int) (hx2 : ev_rng x2), ∀ (s6 : ev_St) (w3 : List (Nat × Value)), ev_lk w3 0 = some (.ref 621) → ev_lk w3 1 = some (.int (Int32.ofInt a0)) → ev_w none (ev_Mof 248) d 22 w3 [.int (Int32.ofInt x2), .ref 621] s6 (K x2 s6) ev_eU ev_PU) ?_ ?_
  · intro x2 hx2 s6 w3 e4 e5
    refine ev_r_chk ?_
    intro c8
    refine ev_r_putI (pc := 22) (y := 352) (ci := 13) (f := 25) hx2 (by decide +kernel) (by decide +kernel) (by exact ev_ob_621) rfl (ev_fit_bl c8) ?_
    intro s7
    refine ev_r_aload_n (pc := 25) (k := 0) (v := .ref 621) trivial (by decide +kernel) (by exact e4) ?_
    refine ev_r_getC (pc := 26) (y := 99) (ci := 13) (f := 43) (fin := 1) (k' := 651) (by decide +kernel) (by decide +kernel) (by exact ev_ob_621) rfl rfl ?_
    refine ev_r_iload_n (pc := 29) (k := 1) (v := Int32.ofInt a0) (by decide +kernel) (by exact e5) ?_
    refine ev_r_aload_n (pc := 30) (k := 0) (v := .ref 621) trivial (by decide +kernel) (by exact e4) ?_
    refine ev_r_getC (pc := 31) (y := 117) (ci := 13) (f := 49) (fin := 1) (k' := 657) (by decide +kernel) (by decide +kernel) (by exact ev_ob_621) rfl rfl ?_
    refine ev_r_iload_n (pc := 34) (k := 1) (v := Int32.ofInt a0) (by decide +kernel) (by exact e5) ?_
    refine ev_r_iald (pc := 35) ha0 (by decide +kernel) (by exact ev_ab_657) ?_
    intro x9 hx9
    refine ev_r_jn (Q := fun K => ∀ (y12 : Int64), ∀ (x11 : Int) (hx11 : ev_rng x11), ∀ (r10 : Nat) (hr10 : ev_isAb r10 2 .long = true), ∀ (s16 : ev_St) (w13 : List (Nat × Value)), ev_lk w13 0 = some (.ref 621) → ev_lk w13 1 = some (.int (Int32.ofInt a0)) → ev_w none (ev_Mof 248) d 91 w13 [.long y12, .int (Int32.ofInt x11), .ref r10] s16 (K y12 x11 r10 s16) ev_eU ev_PU) ?_ ?_
    · intro y12 x11 hx11 r10 hr10 s16 w13 e14 e15
      refine ev_r_last (pc := 91) hx11 (by decide +kernel) (by exact hr10) ?_
      intro s17
      refine ev_r_aload_n (pc := 92) (k := 0) (v := .ref 621) trivial (by decide +kernel) (by exact e14) ?_
      refine ev_r_getC (pc := 93) (y := 102) (ci := 13) (f := 44) (fin := 1) (k' := 652) (by decide +kernel) (by decide +kernel) (by exact ev_ob_621) rfl rfl ?_
      refine ev_r_iload_n (pc := 96) (k := 1) (v := Int32.ofInt a0) (by decide +kernel) (by exact e15) ?_
      refine ev_r_aload_n (pc := 97) (k := 0) (v := .ref 621) trivial (by decide +kernel) (by exact e14) ?_
      refine ev_r_getC (pc := 98) (y := 117) (ci := 13) (f := 49) (fin := 1) (k' := 657) (by decide +kernel) (by decide +kernel) (by exact ev_ob_621) rfl rfl ?_
      refine ev_r_iload_n (pc := 101) (k := 1) (v := Int32.ofInt a0) (by decide +kernel) (by exact e15) ?_
      refine ev_r_iald (pc := 102) ha0 (by decide +kernel) (by exact ev_ab_657) ?_
      intro x18 hx18
      refine ev_r_jn (Q := fun K => ∀ (y21 : Int64), ∀ (x20 : Int) (hx20 : ev_rng x20), ∀ (r19 : Nat) (hr19 : ev_isAb r19 2 .long = true), ∀ (s25 : ev_St) (w22 : List (Nat × Value)), ev_lk w22 0 = some (.ref 621) → ev_lk w22 1 = some (.int (Int32.ofInt a0)) → ev_w none (ev_Mof 248) d 158 w22 [.long y21, .int (Int32.ofInt x20), .ref r19] s25 (K y21 x20 r19 s25) ev_eU ev_PU) ?_ ?_
      · intro y21 x20 hx20 r19 hr19 s25 w22 e23 e24
        refine ev_r_last (pc := 158) hx20 (by decide +kernel) (by exact hr19) ?_
        intro s26
        refine ev_r_aload_n (pc := 159) (k := 0) (v := .ref 621) trivial (by decide +kernel) (by exact e23) ?_
        refine ev_r_getC (pc := 160) (y := 105) (ci := 13) (f := 45) (fin := 1) (k' := 653) (by decide +kernel) (by decide +kernel) (by exact ev_ob_621) rfl rfl ?_
        refine ev_r_iload_n (pc := 163) (k := 1) (v := Int32.ofInt a0) (by decide +kernel) (by exact e24) ?_
        refine ev_r_lconst (pc := 164) (c := 0) (by decide +kernel) ?_
        refine ev_r_last (pc := 165) ha0 (by decide +kernel) (by exact ev_ab_653) ?_
        intro s27
        refine ev_r_aload_n (pc := 166) (k := 0) (v := .ref 621) trivial (by decide +kernel) (by exact e23) ?_
        refine ev_r_getC (pc := 167) (y := 108) (ci := 13) (f := 46) (fin := 1) (k' := 654) (by decide +kernel) (by decide +kernel) (by exact ev_ob_621) rfl rfl ?_
        refine ev_r_iload_n (pc := 170) (k := 1) (v := Int32.ofInt a0) (by decide +kernel) (by exact e24) ?_
        refine ev_r_lconst (pc := 171) (c := 0) (by decide +kernel) ?_
        refine ev_r_last (pc := 172) ha0 (by decide +kernel) (by exact ev_ab_654) ?_
        intro s28
        refine ev_r_aload_n (pc := 173) (k := 0) (v := .ref 621) trivial (by decide +kernel) (by exact e23) ?_
        refine ev_r_getC (pc := 174) (y := 114) (ci := 13) (f := 48) (fin := 1) (k' := 656) (by decide +kernel) (by decide +kernel) (by exact ev_ob_621) rfl rfl ?_
        refine ev_r_iload_n (pc := 177) (k := 1) (v := Int32.ofInt a0) (by decide +kernel) (by exact e24) ?_
        refine ev_r_iconst (pc := 178) (k := 0) (by decide +kernel) ?_
        refine ev_r_bast (pc := 179) (ty := .boolean) (Or.inr rfl) (ev_nar_bl (by decide : ev_bl 0)) (by decide) ha0 (by decide +kernel) (by exact ev_ab_656) ?_
        intro s29
        exact ev_r_return (pc := 180) (x := ()) trivial (by decide +kernel) (by decide +kernel) rfl
      · intro K158 hK158
        refine ev_r_if (pc := 103) (q := .ne) (o := 12) (t := 115) (c := x18 ≠ 0) (by decide +kernel) (ev_k_ne hx18 ev_rng0) (by decide +kernel) ?_ ?_
        · intro c30
          refine ev_r_aload_n (pc := 115) (k := 0) (v := .ref 621) trivial (by decide +kernel) (by exact e14) ?_
          refine ev_r_getC (pc := 116) (y := 117) (ci := 13) (f := 49) (fin := 1) (k' := 657) (by decide +kernel) (by decide +kernel) (by exact ev_ob_621) rfl rfl ?_
          refine ev_r_iload_n (pc := 119) (k := 1) (v := Int32.ofInt a0) (by decide +kernel) (by exact e15) ?_
          refine ev_r_iald (pc := 120) ha0 (by decide +kernel) (by exact ev_ab_657) ?_
          intro x31 hx31
          refine ev_r_iconst (pc := 121) (k := 1) (by decide +kernel) ?_
          refine ev_r_icmp (pc := 122) (q := .ne) (o := 19) (t := 141) (c := x31 ≠ 1) (by decide +kernel) (ev_k_ne hx31 (by decide)) (by decide +kernel) ?_ ?_
          · intro c32
            refine ev_r_aload_n (pc := 141) (k := 0) (v := .ref 621) trivial (by decide +kernel) (by exact e14) ?_
            refine ev_r_getC (pc := 142) (y := 102) (ci := 13) (f := 44) (fin := 1) (k' := 652) (by decide +kernel) (by decide +kernel) (by exact ev_ob_621) rfl rfl ?_
            refine ev_r_iload_n (pc := 145) (k := 1) (v := Int32.ofInt a0) (by decide +kernel) (by exact e15) ?_
            refine ev_r_lald (pc := 146) ha0 (by decide +kernel) (by exact ev_ab_652) ?_
            intro y33
            refine ev_r_aload_n (pc := 147) (k := 0) (v := .ref 621) trivial (by decide +kernel) (by exact e14) ?_
            refine ev_r_getC (pc := 148) (y := 108) (ci := 13) (f := 46) (fin := 1) (k' := 654) (by decide +kernel) (by decide +kernel) (by exact ev_ob_621) rfl rfl ?_
            refine ev_r_iload_n (pc := 151) (k := 1) (v := Int32.ofInt a0) (by decide +kernel) (by exact e15) ?_
            refine ev_r_lald (pc := 152) ha0 (by decide +kernel) (by exact ev_ab_654) ?_
            intro y34
            refine ev_r_ldc2 (pc := 153) (y := 407) (k := -1) (by decide +kernel) (by decide +kernel) ?_
            refine ev_r_toL (pc := 156) (i := .lxor) (len := 1) (pc' := 157) (by decide +kernel) rfl ?_
            intro y35
            refine ev_r_toL (pc := 157) (i := .land) (len := 1) (pc' := 158) (by decide +kernel) rfl ?_
            intro y36
            exact hK158 y36 a0 ha0 652 ev_ab_652 s17 _ (by exact e14) (by exact e15)
          · intro c32
            refine ev_r_aload_n (pc := 125) (k := 0) (v := .ref 621) trivial (by decide +kernel) (by exact e14) ?_
            refine ev_r_getC (pc := 126) (y := 102) (ci := 13) (f := 44) (fin := 1) (k' := 652) (by decide +kernel) (by decide +kernel) (by exact ev_ob_621) rfl rfl ?_
            refine ev_r_iload_n (pc := 129) (k := 1) (v := Int32.ofInt a0) (by decide +kernel) (by exact e15) ?_
            refine ev_r_lald (pc := 130) ha0 (by decide +kernel) (by exact ev_ab_652) ?_
            intro y37
            refine ev_r_aload_n (pc := 131) (k := 0) (v := .ref 621) trivial (by decide +kernel) (by exact e14) ?_
            refine ev_r_getC (pc := 132) (y := 108) (ci := 13) (f := 46) (fin := 1) (k' := 654) (by decide +kernel) (by decide +kernel) (by exact ev_ob_621) rfl rfl ?_
            refine ev_r_iload_n (pc := 135) (k := 1) (v := Int32.ofInt a0) (by decide +kernel) (by exact e15) ?_
            refine ev_r_lald (pc := 136) ha0 (by decide +kernel) (by exact ev_ab_654) ?_
            intro y38
            refine ev_r_toL (pc := 137) (i := .land) (len := 1) (pc' := 138) (by decide +kernel) rfl ?_
            intro y39
            refine ev_r_goto (pc := 138) (o := 20) (t := 158) (by decide +kernel) (by decide +kernel) ?_
            exact hK158 y39 a0 ha0 652 ev_ab_652 s17 _ (by exact e14) (by exact e15)
        · intro c30
          refine ev_r_aload_n (pc := 106) (k := 0) (v := .ref 621) trivial (by decide +kernel) (by exact e14) ?_
          refine ev_r_getC (pc := 107) (y := 108) (ci := 13) (f := 46) (fin := 1) (k' := 654) (by decide +kernel) (by decide +kernel) (by exact ev_ob_621) rfl rfl ?_
          refine ev_r_iload_n (pc := 110) (k := 1) (v := Int32.ofInt a0) (by decide +kernel) (by exact e15) ?_
          refine ev_r_lald (pc := 111) ha0 (by decide +kernel) (by exact ev_ab_654) ?_
          intro y40
          refine ev_r_goto (pc := 112) (o := 46) (t := 158) (by decide +kernel) (by decide +kernel) ?_
          exact hK158 y40 a0 ha0 652 ev_ab_652 s17 _ (by exact e14) (by exact e15)
    · intro K91 hK91
      refine ev_r_if (pc := 36) (q := .ne) (o := 12) (t := 48) (c := x9 ≠ 0) (by decide +kernel) (ev_k_ne hx9 ev_rng0) (by decide +kernel) ?_ ?_
      · intro c41
        refine ev_r_aload_n (pc := 48) (k := 0) (v := .ref 621) trivial (by decide +kernel) (by exact e4) ?_
        refine ev_r_getC (pc := 49) (y := 117) (ci := 13) (f := 49) (fin := 1) (k' := 657) (by decide +kernel) (by decide +kernel) (by exact ev_ob_621) rfl rfl ?_
        refine ev_r_iload_n (pc := 52) (k := 1) (v := Int32.ofInt a0) (by decide +kernel) (by exact e5) ?_
        refine ev_r_iald (pc := 53) ha0 (by decide +kernel) (by exact ev_ab_657) ?_
        intro x42 hx42
        refine ev_r_iconst (pc := 54) (k := 1) (by decide +kernel) ?_
        refine ev_r_icmp (pc := 55) (q := .ne) (o := 19) (t := 74) (c := x42 ≠ 1) (by decide +kernel) (ev_k_ne hx42 (by decide)) (by decide +kernel) ?_ ?_
        · intro c43
          refine ev_r_aload_n (pc := 74) (k := 0) (v := .ref 621) trivial (by decide +kernel) (by exact e4) ?_
          refine ev_r_getC (pc := 75) (y := 99) (ci := 13) (f := 43) (fin := 1) (k' := 651) (by decide +kernel) (by decide +kernel) (by exact ev_ob_621) rfl rfl ?_
          refine ev_r_iload_n (pc := 78) (k := 1) (v := Int32.ofInt a0) (by decide +kernel) (by exact e5) ?_
          refine ev_r_lald (pc := 79) ha0 (by decide +kernel) (by exact ev_ab_651) ?_
          intro y44
          refine ev_r_aload_n (pc := 80) (k := 0) (v := .ref 621) trivial (by decide +kernel) (by exact e4) ?_
          refine ev_r_getC (pc := 81) (y := 105) (ci := 13) (f := 45) (fin := 1) (k' := 653) (by decide +kernel) (by decide +kernel) (by exact ev_ob_621) rfl rfl ?_
          refine ev_r_iload_n (pc := 84) (k := 1) (v := Int32.ofInt a0) (by decide +kernel) (by exact e5) ?_
          refine ev_r_lald (pc := 85) ha0 (by decide +kernel) (by exact ev_ab_653) ?_
          intro y45
          refine ev_r_ldc2 (pc := 86) (y := 407) (k := -1) (by decide +kernel) (by decide +kernel) ?_
          refine ev_r_toL (pc := 89) (i := .lxor) (len := 1) (pc' := 90) (by decide +kernel) rfl ?_
          intro y46
          refine ev_r_toL (pc := 90) (i := .land) (len := 1) (pc' := 91) (by decide +kernel) rfl ?_
          intro y47
          exact hK91 y47 a0 ha0 651 ev_ab_651 s7 _ (by exact e4) (by exact e5)
        · intro c43
          refine ev_r_aload_n (pc := 58) (k := 0) (v := .ref 621) trivial (by decide +kernel) (by exact e4) ?_
          refine ev_r_getC (pc := 59) (y := 99) (ci := 13) (f := 43) (fin := 1) (k' := 651) (by decide +kernel) (by decide +kernel) (by exact ev_ob_621) rfl rfl ?_
          refine ev_r_iload_n (pc := 62) (k := 1) (v := Int32.ofInt a0) (by decide +kernel) (by exact e5) ?_
          refine ev_r_lald (pc := 63) ha0 (by decide +kernel) (by exact ev_ab_651) ?_
          intro y48
          refine ev_r_aload_n (pc := 64) (k := 0) (v := .ref 621) trivial (by decide +kernel) (by exact e4) ?_
          refine ev_r_getC (pc := 65) (y := 105) (ci := 13) (f := 45) (fin := 1) (k' := 653) (by decide +kernel) (by decide +kernel) (by exact ev_ob_621) rfl rfl ?_
          refine ev_r_iload_n (pc := 68) (k := 1) (v := Int32.ofInt a0) (by decide +kernel) (by exact e5) ?_
          refine ev_r_lald (pc := 69) ha0 (by decide +kernel) (by exact ev_ab_653) ?_
          intro y49
          refine ev_r_toL (pc := 70) (i := .land) (len := 1) (pc' := 71) (by decide +kernel) rfl ?_
          intro y50
          refine ev_r_goto (pc := 71) (o := 20) (t := 91) (by decide +kernel) (by decide +kernel) ?_
          exact hK91 y50 a0 ha0 651 ev_ab_651 s7 _ (by exact e4) (by exact e5)
      · intro c41
        refine ev_r_aload_n (pc := 39) (k := 0) (v := .ref 621) trivial (by decide +kernel) (by exact e4) ?_
        refine ev_r_getC (pc := 40) (y := 105) (ci := 13) (f := 45) (fin := 1) (k' := 653) (by decide +kernel) (by decide +kernel) (by exact ev_ob_621) rfl rfl ?_
        refine ev_r_iload_n (pc := 43) (k := 1) (v := Int32.ofInt a0) (by decide +kernel) (by exact e5) ?_
        refine ev_r_lald (pc := 44) ha0 (by decide +kernel) (by exact ev_ab_653) ?_
        intro y51
        refine ev_r_goto (pc := 45) (o := 46) (t := 91) (by decide +kernel) (by decide +kernel) ?_
        exact hK91 y51 a0 ha0 651 ev_ab_651 s7 _ (by exact e4) (by exact e5)
  · intro K22 hK22
    refine ev_r_jn (Q := fun K => ∀ (s55 : ev_St) (w52 : List (Nat × Value)), ev_lk w52 0 = some (.ref 621) → ev_lk w52 1 = some (.int (Int32.ofInt a0)) → ev_w none (ev_Mof 248) d 17 w52 [.ref 621] s55 (K  s55) ev_eU ev_PU) ?_ ?_
    · intro  s55 w52 e53 e54
      refine ev_r_iconst (pc := 17) (k := 1) (by decide +kernel) ?_
      refine ev_r_goto (pc := 18) (o := 4) (t := 22) (by decide +kernel) (by decide +kernel) ?_
      exact hK22 1 (by decide) s55 _ (by exact e53) (by exact e54)
    · intro K17 hK17
      refine ev_r_if (pc := 5) (q := .ne) (o := 12) (t := 17) (c := x1 ≠ 0) (by decide +kernel) (ev_k_ne hx1 ev_rng0) (by decide +kernel) ?_ ?_
      · intro c56
        exact hK17  S _ (by rfl) (by rfl)
      · intro c56
        refine ev_r_aload_n (pc := 8) (k := 0) (v := .ref 621) trivial (by decide +kernel) (by rfl) ?_
        refine ev_r_getC (pc := 9) (y := 114) (ci := 13) (f := 48) (fin := 1) (k' := 656) (by decide +kernel) (by decide +kernel) (by exact ev_ob_621) rfl rfl ?_
        refine ev_r_iload_n (pc := 12) (k := 1) (v := Int32.ofInt a0) (by decide +kernel) (by rfl) ?_
        refine ev_r_bald (pc := 13) (ty := .boolean) (Or.inr rfl) ha0 (by decide +kernel) (by exact ev_ab_656) ?_
        intro x57 hx57
        refine ev_r_if (pc := 14) (q := .ne) (o := 7) (t := 21) (c := x57 ≠ 0) (by decide +kernel) (ev_k_ne hx57 ev_rng0) (by decide +kernel) ?_ ?_
        · intro c58
          refine ev_r_iconst (pc := 21) (k := 0) (by decide +kernel) ?_
          exact hK22 0 (by decide) S _ (by rfl) (by rfl)
        · intro c58
          exact hK17  S _ (by rfl) (by rfl)
/-- MendBenchModel.takes(I)V -/
def jm_249 (Q : Nat) (a0 : Int) (S : ev_St) : Option ((Unit) × ev_St) := ev_if ((0 : Int) ≤ a0 ∧ a0 < (ev_aln 653 : Int)) (ev_b (S.2.1 653 (Int.toNat a0)) fun y1 => ev_b (S.2.1 621 41) fun y2 => ev_b (y1 ||| y2) fun y3 => ev_if ((0 : Int) ≤ a0 ∧ a0 < (ev_aln 653 : Int)) (ev_b (ev_pL S 653 (Int.toNat a0) y3) fun s4 => ev_if ((0 : Int) ≤ a0 ∧ a0 < (ev_aln 654 : Int)) (ev_b (s4.2.1 654 (Int.toNat a0)) fun y5 => ev_b (s4.2.1 621 42) fun y6 => ev_b (y5 ||| y6) fun y7 => ev_if ((0 : Int) ≤ a0 ∧ a0 < (ev_aln 654 : Int)) (ev_b (ev_pL s4 654 (Int.toNat a0) y7) fun s8 => ev_if ((0 : Int) ≤ a0 ∧ a0 < (ev_aln 656 : Int)) (ev_b (ev_pI s8 656 (Int.toNat a0) 1) fun s9 => some ((), s9))))))
theorem jt_249 (d : Nat) (hd : 1 ≤ d) (Q : Nat) (a0 : Int) (ha0 : ev_rng a0) (S : ev_St) (x : Unit) (S' : ev_St) (hJ : jm_249 Q a0 S = some (x, S')) : ev_Ref d 249 [.ref 621, .int (Int32.ofInt a0)] S (ev_eU x) S' (ev_PU x) := by
  obtain ⟨d, rfl⟩ : ∃ e, d = e + 1 := ⟨d - 1, by omega⟩
  refine ev_ref_of (P := ev_PU) (lv := [(0, .ref 621), (1, .int (Int32.ofInt a0))]) (by decide +kernel) (by (try simp only [ev_sum, ev_nv_cat]); first | done | rfl) (by (try simp only [lv_args, ev_nv_cat]); first | done | rfl) ?_ x S' hJ
  unfold jm_249
  refine ev_r_aload_n (pc := 0) (k := 0) (v := .ref 621) trivial (by decide +kernel) (by rfl) ?_
  refine ev_r_getC (pc := 1) (y := 105) (ci := 13) (f := 45) (fin := 1) (k' := 653) (by decide +kernel) (by decide +kernel) (by exact ev_ob_621) rfl rfl ?_
  refine ev_r_iload_n (pc := 4) (k := 1) (v := Int32.ofInt a0) (by decide +kernel) (by rfl) ?_
  refine ev_r_dup2 (pc := 5) rfl rfl (by decide +kernel) ?_
  refine ev_r_lald (pc := 6) ha0 (by decide +kernel) (by exact ev_ab_653) ?_
  intro y1
  refine ev_r_aload_n (pc := 7) (k := 0) (v := .ref 621) trivial (by decide +kernel) (by rfl) ?_
  refine ev_r_getL (pc := 8) (y := 394) (ci := 13) (f := 41) (fin := 0) (by decide +kernel) (by decide +kernel) (by exact ev_ob_621) rfl ?_
  intro y2
  refine ev_r_toL (pc := 11) (i := .lor) (len := 1) (pc' := 12) (by decide +kernel) rfl ?_
  intro y3
  refine ev_r_last (pc := 12) ha0 (by decide +kernel) (by exact ev_ab_653) ?_
  intro s4
  refine ev_r_aload_n (pc := 13) (k := 0) (v := .ref 621) trivial (by decide +kernel) (by rfl) ?_
  refine ev_r_getC (pc := 14) (y := 108) (ci := 13) (f := 46) (fin := 1) (k' := 654) (by decide +kernel) (by decide +kernel) (by exact ev_ob_621) rfl rfl ?_
  refine ev_r_iload_n (pc := 17) (k := 1) (v := Int32.ofInt a0) (by decide +kernel) (by rfl) ?_
  refine ev_r_dup2 (pc := 18) rfl rfl (by decide +kernel) ?_
  refine ev_r_lald (pc := 19) ha0 (by decide +kernel) (by exact ev_ab_654) ?_
  intro y5
  refine ev_r_aload_n (pc := 20) (k := 0) (v := .ref 621) trivial (by decide +kernel) (by rfl) ?_
  refine ev_r_getL (pc := 21) (y := 398) (ci := 13) (f := 42) (fin := 0) (by decide +kernel) (by decide +kernel) (by exact ev_ob_621) rfl ?_
  intro y6
  refine ev_r_toL (pc := 24) (i := .lor) (len := 1) (pc' := 25) (by decide +kernel) rfl ?_
  intro y7
  refine ev_r_last (pc := 25) ha0 (by decide +kernel) (by exact ev_ab_654) ?_
  intro s8
  refine ev_r_aload_n (pc := 26) (k := 0) (v := .ref 621) trivial (by decide +kernel) (by rfl) ?_
  refine ev_r_getC (pc := 27) (y := 114) (ci := 13) (f := 48) (fin := 1) (k' := 656) (by decide +kernel) (by decide +kernel) (by exact ev_ob_621) rfl rfl ?_
  refine ev_r_iload_n (pc := 30) (k := 1) (v := Int32.ofInt a0) (by decide +kernel) (by rfl) ?_
  refine ev_r_iconst (pc := 31) (k := 1) (by decide +kernel) ?_
  refine ev_r_bast (pc := 32) (ty := .boolean) (Or.inr rfl) (ev_nar_bl (by decide : ev_bl 1)) (by decide) ha0 (by decide +kernel) (by exact ev_ab_656) ?_
  intro s9
  exact ev_r_return (pc := 33) (x := ()) trivial (by decide +kernel) (by decide +kernel) rfl
/-- MendBenchModel.single(I)I -/
def jm_250 (Q : Nat) (a0 : Int) (S : ev_St) : Option ((Int) × ev_St) := ev_bd (jm_233 Q a0 S) fun x2 s1 => ev_ck (a0 + 1) fun x3 => ev_bd (jm_233 Q x3 s1) fun x5 s4 => if x2 ≠ 92 then (if x2 = (-1) then (some (0, s4)) else (if x2 = 91 then (some (0, s4)) else (if x2 = 93 then (some (0, s4)) else (if x2 = 45 then (some (0, s4)) else (if x2 ≠ 38 then (some (1, s4)) else (if x5 ≠ 38 then (some (1, s4)) else (some (0, s4)))))))) else (if x5 = 110 then (some (2, s4)) else (ev_bd (jm_228 Q x5 s4) fun x15 s14 => if x15 = 0 then (some (0, s14)) else (some (2, s14))))
theorem jt_250 (d : Nat) (hd : 5 ≤ d) (Q : Nat) (a0 : Int) (ha0 : ev_rng a0) (S : ev_St) (x : Int) (S' : ev_St) (hJ : jm_250 Q a0 S = some (x, S')) : ev_Ref d 250 [.ref 621, .int (Int32.ofInt a0)] S (ev_eI x) S' (ev_rng x) := by
  obtain ⟨d, rfl⟩ : ∃ e, d = e + 1 := ⟨d - 1, by omega⟩
  refine ev_ref_of (P := ev_rng) (lv := [(0, .ref 621), (1, .int (Int32.ofInt a0))]) (by decide +kernel) (by (try simp only [ev_sum, ev_nv_cat]); first | done | rfl) (by (try simp only [lv_args, ev_nv_cat]); first | done | rfl) ?_ x S' hJ
  unfold jm_250
  refine ev_r_aload_n (pc := 0) (k := 0) (v := .ref 621) trivial (by decide +kernel) (by rfl) ?_
  refine ev_r_iload_n (pc := 1) (k := 1) (v := Int32.ofInt a0) (by decide +kernel) (by rfl) ?_
  refine ev_r_virt (pc := 2) (y := 409) (mi := 233) (na := 1) (k := 621) (as := [.int (Int32.ofInt a0)]) (rest := []) (encc := ev_oI) (Q := ev_rng) (fun x S1 h => jt_233 d (by omega) Q a0 ha0 S x S1 h) (by exact ev_ob_621) (by decide +kernel) (by decide +kernel) (by decide +kernel) (by decide +kernel) rfl (by (try simp only [ev_sum, ev_nv_cat]); first | done | rfl) ?_
  intro x2 s1 hx2
  show ev_w _ _ _ _ _ [.int (Int32.ofInt x2)] _ _ _ _
  refine ev_r_istore_n (pc := 5) (k := 2) (by decide +kernel) (by decide +kernel) rfl ?_
  refine ev_r_aload_n (pc := 6) (k := 0) (v := .ref 621) trivial (by decide +kernel) (by exact (ev_l1 (by rfl) (by decide) (by decide))) ?_
  refine ev_r_iload_n (pc := 7) (k := 1) (v := Int32.ofInt a0) (by decide +kernel) (by exact (ev_lk_st1 (by rfl) (by decide) rfl)) ?_
  refine ev_r_iconst (pc := 8) (k := 1) (by decide +kernel) ?_
  refine ev_r_iadd (pc := 9) (by decide +kernel) ?_
  intro x3 hx3
  refine ev_r_virt (pc := 10) (y := 409) (mi := 233) (na := 1) (k := 621) (as := [.int (Int32.ofInt x3)]) (rest := []) (encc := ev_oI) (Q := ev_rng) (fun x S1 h => jt_233 d (by omega) Q x3 hx3 s1 x S1 h) (by exact ev_ob_621) (by decide +kernel) (by decide +kernel) (by decide +kernel) (by decide +kernel) rfl (by (try simp only [ev_sum, ev_nv_cat]); first | done | rfl) ?_
  intro x5 s4 hx5
  show ev_w _ _ _ _ _ [.int (Int32.ofInt x5)] _ _ _ _
  refine ev_r_istore_n (pc := 13) (k := 3) (by decide +kernel) (by decide +kernel) rfl ?_
  refine ev_r_iload_n (pc := 14) (k := 2) (v := Int32.ofInt x2) (by decide +kernel) (by exact (ev_lk_st1 ev_lk_st1_self (by decide) rfl)) ?_
  refine ev_r_bipush (pc := 15) (k := 92) (by decide +kernel) (by decide +kernel) ?_
  refine ev_r_icmp (pc := 17) (q := .ne) (o := 22) (t := 39) (c := x2 ≠ 92) (by decide +kernel) (ev_k_ne hx2 (by decide)) (by decide +kernel) ?_ ?_
  · intro c6
    refine ev_r_iload_n (pc := 39) (k := 2) (v := Int32.ofInt x2) (by decide +kernel) (by exact (ev_lk_st1 ev_lk_st1_self (by decide) rfl)) ?_
    refine ev_r_iconst (pc := 40) (k := -1) (by decide +kernel) ?_
    refine ev_r_icmp (pc := 41) (q := .eq) (o := 33) (t := 74) (c := x2 = (-1)) (by decide +kernel) (ev_k_eq hx2 (by decide)) (by decide +kernel) ?_ ?_
    · intro c7
      refine ev_r_iconst (pc := 74) (k := 0) (by decide +kernel) ?_
      refine ev_r_goto (pc := 75) (o := 4) (t := 79) (by decide +kernel) (by decide +kernel) ?_
      exact ev_r_ireturn (pc := 79) (x := 0) (v := Int32.ofInt 0) (ty := .int) (by decide) (by decide +kernel) (by decide +kernel) rfl rfl
    · intro c7
      refine ev_r_iload_n (pc := 44) (k := 2) (v := Int32.ofInt x2) (by decide +kernel) (by exact (ev_lk_st1 ev_lk_st1_self (by decide) rfl)) ?_
      refine ev_r_bipush (pc := 45) (k := 91) (by decide +kernel) (by decide +kernel) ?_
      refine ev_r_icmp (pc := 47) (q := .eq) (o := 27) (t := 74) (c := x2 = 91) (by decide +kernel) (ev_k_eq hx2 (by decide)) (by decide +kernel) ?_ ?_
      · intro c8
        refine ev_r_iconst (pc := 74) (k := 0) (by decide +kernel) ?_
        refine ev_r_goto (pc := 75) (o := 4) (t := 79) (by decide +kernel) (by decide +kernel) ?_
        exact ev_r_ireturn (pc := 79) (x := 0) (v := Int32.ofInt 0) (ty := .int) (by decide) (by decide +kernel) (by decide +kernel) rfl rfl
      · intro c8
        refine ev_r_iload_n (pc := 50) (k := 2) (v := Int32.ofInt x2) (by decide +kernel) (by exact (ev_lk_st1 ev_lk_st1_self (by decide) rfl)) ?_
        refine ev_r_bipush (pc := 51) (k := 93) (by decide +kernel) (by decide +kernel) ?_
        refine ev_r_icmp (pc := 53) (q := .eq) (o := 21) (t := 74) (c := x2 = 93) (by decide +kernel) (ev_k_eq hx2 (by decide)) (by decide +kernel) ?_ ?_
        · intro c9
          refine ev_r_iconst (pc := 74) (k := 0) (by decide +kernel) ?_
          refine ev_r_goto (pc := 75) (o := 4) (t := 79) (by decide +kernel) (by decide +kernel) ?_
          exact ev_r_ireturn (pc := 79) (x := 0) (v := Int32.ofInt 0) (ty := .int) (by decide) (by decide +kernel) (by decide +kernel) rfl rfl
        · intro c9
          refine ev_r_iload_n (pc := 56) (k := 2) (v := Int32.ofInt x2) (by decide +kernel) (by exact (ev_lk_st1 ev_lk_st1_self (by decide) rfl)) ?_
          refine ev_r_bipush (pc := 57) (k := 45) (by decide +kernel) (by decide +kernel) ?_
          refine ev_r_icmp (pc := 59) (q := .eq) (o := 15) (t := 74) (c := x2 = 45) (by decide +kernel) (ev_k_eq hx2 (by decide)) (by decide +kernel) ?_ ?_
          · intro c10
            refine ev_r_iconst (pc := 74) (k := 0) (by decide +kernel) ?_
            refine ev_r_goto (pc := 75) (o := 4) (t := 79) (by decide +kernel) (by decide +kernel) ?_
            exact ev_r_ireturn (pc := 79) (x := 0) (v := Int32.ofInt 0) (ty := .int) (by decide) (by decide +kernel) (by decide +kernel) rfl rfl
          · intro c10
            refine ev_r_iload_n (pc := 62) (k := 2) (v := Int32.ofInt x2) (by decide +kernel) (by exact (ev_lk_st1 ev_lk_st1_self (by decide) rfl)) ?_
            refine ev_r_bipush (pc := 63) (k := 38) (by decide +kernel) (by decide +kernel) ?_
            refine ev_r_icmp (pc := 65) (q := .ne) (o := 13) (t := 78) (c := x2 ≠ 38) (by decide +kernel) (ev_k_ne hx2 (by decide)) (by decide +kernel) ?_ ?_
            · intro c11
              refine ev_r_iconst (pc := 78) (k := 1) (by decide +kernel) ?_
              exact ev_r_ireturn (pc := 79) (x := 1) (v := Int32.ofInt 1) (ty := .int) (by decide) (by decide +kernel) (by decide +kernel) rfl rfl
            · intro c11
              refine ev_r_iload_n (pc := 68) (k := 3) (v := Int32.ofInt x5) (by decide +kernel) (by exact ev_lk_st1_self) ?_
              refine ev_r_bipush (pc := 69) (k := 38) (by decide +kernel) (by decide +kernel) ?_
              refine ev_r_icmp (pc := 71) (q := .ne) (o := 7) (t := 78) (c := x5 ≠ 38) (by decide +kernel) (ev_k_ne hx5 (by decide)) (by decide +kernel) ?_ ?_
              · intro c12
                refine ev_r_iconst (pc := 78) (k := 1) (by decide +kernel) ?_
                exact ev_r_ireturn (pc := 79) (x := 1) (v := Int32.ofInt 1) (ty := .int) (by decide) (by decide +kernel) (by decide +kernel) rfl rfl
              · intro c12
                refine ev_r_iconst (pc := 74) (k := 0) (by decide +kernel) ?_
                refine ev_r_goto (pc := 75) (o := 4) (t := 79) (by decide +kernel) (by decide +kernel) ?_
                exact ev_r_ireturn (pc := 79) (x := 0) (v := Int32.ofInt 0) (ty := .int) (by decide) (by decide +kernel) (by decide +kernel) rfl rfl
  · intro c6
    refine ev_r_iload_n (pc := 20) (k := 3) (v := Int32.ofInt x5) (by decide +kernel) (by exact ev_lk_st1_self) ?_
    refine ev_r_bipush (pc := 21) (k := 110) (by decide +kernel) (by decide +kernel) ?_
    refine ev_r_icmp (pc := 23) (q := .eq) (o := 10) (t := 33) (c := x5 = 110) (by decide +kernel) (ev_k_eq hx5 (by decide)) (by decide +kernel) ?_ ?_
    · intro c13
      refine ev_r_iconst (pc := 33) (k := 2) (by decide +kernel) ?_
      refine ev_r_goto (pc := 34) (o := 4) (t := 38) (by decide +kernel) (by decide +kernel) ?_
      exact ev_r_ireturn (pc := 38) (x := 2) (v := Int32.ofInt 2) (ty := .int) (by decide) (by decide +kernel) (by decide +kernel) rfl rfl
    · intro c13
      refine ev_r_iload_n (pc := 26) (k := 3) (v := Int32.ofInt x5) (by decide +kernel) (by exact ev_lk_st1_self) ?_
      refine ev_r_stat (pc := 27) (y := 412) (kind := 2) (mi := 228) (na := 1) (as := [.int (Int32.ofInt x5)]) (rest := []) (encc := ev_oI) (Q := ev_bl) (fun x S1 h => jt_228 d (by omega) Q x5 hx5 s4 x S1 h) (Or.inl rfl) (by decide +kernel) (by decide +kernel) (by decide +kernel) (by decide +kernel) rfl (by (try simp only [ev_sum, ev_nv_cat]); first | done | rfl) ?_
      intro x15 s14 hx15
      replace hx15 := ev_bl_rng hx15
      show ev_w _ _ _ _ _ [.int (Int32.ofInt x15)] _ _ _ _
      refine ev_r_if (pc := 30) (q := .eq) (o := 7) (t := 37) (c := x15 = 0) (by decide +kernel) (ev_k_eq hx15 ev_rng0) (by decide +kernel) ?_ ?_
      · intro c16
        refine ev_r_iconst (pc := 37) (k := 0) (by decide +kernel) ?_
        exact ev_r_ireturn (pc := 38) (x := 0) (v := Int32.ofInt 0) (ty := .int) (by decide) (by decide +kernel) (by decide +kernel) rfl rfl
      · intro c16
        refine ev_r_iconst (pc := 33) (k := 2) (by decide +kernel) ?_
        refine ev_r_goto (pc := 34) (o := 4) (t := 38) (by decide +kernel) (by decide +kernel) ?_
        exact ev_r_ireturn (pc := 38) (x := 2) (v := Int32.ofInt 2) (ty := .int) (by decide) (by decide +kernel) (by decide +kernel) rfl rfl
/-- MendBenchModel.singleAt(I)I -/
def jm_251 (Q : Nat) (a0 : Int) (S : ev_St) : Option ((Int) × ev_St) := ev_ck (a0 + 1) fun x1 => ev_bd (jm_233 Q x1 S) fun x3 s2 => ev_bd (jm_233 Q a0 s2) fun x5 s4 => if x5 = 92 then (if x3 ≠ 110 then (some (x3, s4)) else (some (10, s4))) else (ev_bd (jm_233 Q a0 s4) fun x9 s8 => some (x9, s8))
theorem jt_251 (d : Nat) (hd : 2 ≤ d) (Q : Nat) (a0 : Int) (ha0 : ev_rng a0) (S : ev_St) (x : Int) (S' : ev_St) (hJ : jm_251 Q a0 S = some (x, S')) : ev_Ref d 251 [.ref 621, .int (Int32.ofInt a0)] S (ev_eI x) S' (ev_rng x) := by
  obtain ⟨d, rfl⟩ : ∃ e, d = e + 1 := ⟨d - 1, by omega⟩
  refine ev_ref_of (P := ev_rng) (lv := [(0, .ref 621), (1, .int (Int32.ofInt a0))]) (by decide +kernel) (by (try simp only [ev_sum, ev_nv_cat]); first | done | rfl) (by (try simp only [lv_args, ev_nv_cat]); first | done | rfl) ?_ x S' hJ
  unfold jm_251
  refine ev_r_aload_n (pc := 0) (k := 0) (v := .ref 621) trivial (by decide +kernel) (by rfl) ?_
  refine ev_r_iload_n (pc := 1) (k := 1) (v := Int32.ofInt a0) (by decide +kernel) (by rfl) ?_
  refine ev_r_iconst (pc := 2) (k := 1) (by decide +kernel) ?_
  refine ev_r_iadd (pc := 3) (by decide +kernel) ?_
  intro x1 hx1
  refine ev_r_virt (pc := 4) (y := 409) (mi := 233) (na := 1) (k := 621) (as := [.int (Int32.ofInt x1)]) (rest := []) (encc := ev_oI) (Q := ev_rng) (fun x S1 h => jt_233 d (by omega) Q x1 hx1 S x S1 h) (by exact ev_ob_621) (by decide +kernel) (by decide +kernel) (by decide +kernel) (by decide +kernel) rfl (by (try simp only [ev_sum, ev_nv_cat]); first | done | rfl) ?_
  intro x3 s2 hx3
  show ev_w _ _ _ _ _ [.int (Int32.ofInt x3)] _ _ _ _
  refine ev_r_istore_n (pc := 7) (k := 2) (by decide +kernel) (by decide +kernel) rfl ?_
  refine ev_r_aload_n (pc := 8) (k := 0) (v := .ref 621) trivial (by decide +kernel) (by exact (ev_l1 (by rfl) (by decide) (by decide))) ?_
  refine ev_r_iload_n (pc := 9) (k := 1) (v := Int32.ofInt a0) (by decide +kernel) (by exact (ev_lk_st1 (by rfl) (by decide) rfl)) ?_
  refine ev_r_virt (pc := 10) (y := 409) (mi := 233) (na := 1) (k := 621) (as := [.int (Int32.ofInt a0)]) (rest := []) (encc := ev_oI) (Q := ev_rng) (fun x S1 h => jt_233 d (by omega) Q a0 ha0 s2 x S1 h) (by exact ev_ob_621) (by decide +kernel) (by decide +kernel) (by decide +kernel) (by decide +kernel) rfl (by (try simp only [ev_sum, ev_nv_cat]); first | done | rfl) ?_
  intro x5 s4 hx5
  show ev_w _ _ _ _ _ [.int (Int32.ofInt x5)] _ _ _ _
  refine ev_r_bipush (pc := 13) (k := 92) (by decide +kernel) (by decide +kernel) ?_
  refine ev_r_icmp (pc := 15) (q := .eq) (o := 11) (t := 26) (c := x5 = 92) (by decide +kernel) (ev_k_eq hx5 (by decide)) (by decide +kernel) ?_ ?_
  · intro c6
    refine ev_r_iload_n (pc := 26) (k := 2) (v := Int32.ofInt x3) (by decide +kernel) (by exact ev_lk_st1_self) ?_
    refine ev_r_bipush (pc := 27) (k := 110) (by decide +kernel) (by decide +kernel) ?_
    refine ev_r_icmp (pc := 29) (q := .ne) (o := 8) (t := 37) (c := x3 ≠ 110) (by decide +kernel) (ev_k_ne hx3 (by decide)) (by decide +kernel) ?_ ?_
    · intro c7
      refine ev_r_iload_n (pc := 37) (k := 2) (v := Int32.ofInt x3) (by decide +kernel) (by exact ev_lk_st1_self) ?_
      exact ev_r_ireturn (pc := 38) (x := x3) (v := Int32.ofInt x3) (ty := .int) hx3 (by decide +kernel) (by decide +kernel) rfl rfl
    · intro c7
      refine ev_r_bipush (pc := 32) (k := 10) (by decide +kernel) (by decide +kernel) ?_
      refine ev_r_goto (pc := 34) (o := 4) (t := 38) (by decide +kernel) (by decide +kernel) ?_
      exact ev_r_ireturn (pc := 38) (x := 10) (v := Int32.ofInt 10) (ty := .int) (by decide) (by decide +kernel) (by decide +kernel) rfl rfl
  · intro c6
    refine ev_r_aload_n (pc := 18) (k := 0) (v := .ref 621) trivial (by decide +kernel) (by exact (ev_l1 (by rfl) (by decide) (by decide))) ?_
    refine ev_r_iload_n (pc := 19) (k := 1) (v := Int32.ofInt a0) (by decide +kernel) (by exact (ev_lk_st1 (by rfl) (by decide) rfl)) ?_
    refine ev_r_virt (pc := 20) (y := 409) (mi := 233) (na := 1) (k := 621) (as := [.int (Int32.ofInt a0)]) (rest := []) (encc := ev_oI) (Q := ev_rng) (fun x S1 h => jt_233 d (by omega) Q a0 ha0 s4 x S1 h) (by exact ev_ob_621) (by decide +kernel) (by decide +kernel) (by decide +kernel) (by decide +kernel) rfl (by (try simp only [ev_sum, ev_nv_cat]); first | done | rfl) ?_
    intro x9 s8 hx9
    show ev_w _ _ _ _ _ [.int (Int32.ofInt x9)] _ _ _ _
    refine ev_r_goto (pc := 23) (o := 15) (t := 38) (by decide +kernel) (by decide +kernel) ?_
    exact ev_r_ireturn (pc := 38) (x := x9) (v := Int32.ofInt x9) (ty := .int) hx9 (by decide +kernel) (by decide +kernel) rfl rfl
/-- MendBenchModel.beginsClass(I)V -/
def jm_252 (Q : Nat) (a0 : Int) (S : ev_St) : Option ((Unit) × ev_St) := ev_bd (jm_234 Q 1 S) fun _ s1 => ev_bd (jm_233 Q 0 s1) fun x3 s2 => ev_jn (fun (x6 : Int) (x5 : Int) (r4 : Nat) (s10 : ev_St) => ev_if (ev_bl x6) (ev_if ((0 : Int) ≤ x5 ∧ x5 < (ev_aln r4 : Int)) (ev_b (ev_pI s10 r4 (Int.toNat x5) x6) fun s11 => ev_if ((0 : Int) ≤ a0 ∧ a0 < (ev_aln 655 : Int)) (ev_b (s11.1 655 (Int.toNat a0)) fun x13 => ev_jn (fun (x14 : Int) (s18 : ev_St) => ev_bd (jm_234 Q x14 s18) fun _ s19 => ev_if ((0 : Int) ≤ a0 ∧ a0 < (ev_aln 657 : Int)) (ev_b (ev_pI s19 657 (Int.toNat a0) 0) fun s20 => ev_if ((0 : Int) ≤ a0 ∧ a0 < (ev_aln 653 : Int)) (ev_b (ev_pL s20 653 (Int.toNat a0) ((Int64.ofNat ((0 : Fin 2) : Nat)))) fun s21 => ev_if ((0 : Int) ≤ a0 ∧ a0 < (ev_aln 654 : Int)) (ev_b (ev_pL s21 654 (Int.toNat a0) ((Int64.ofNat ((0 : Fin 2) : Nat)))) fun s22 => ev_if ((0 : Int) ≤ a0 ∧ a0 < (ev_aln 656 : Int)) (ev_b (ev_pI s22 656 (Int.toNat a0) 0) fun s23 => some ((), s23)))))) fun K41 => if x13 = 0 then (K41 0 s11) else (K41 1 s11))))) fun K25 => if x3 ≠ 94 then (K25 0 a0 655 s2) else (K25 1 a0 655 s2)
theorem jt_252 (d : Nat) (hd : 2 ≤ d) (Q : Nat) (a0 : Int) (ha0 : ev_rng a0) (S : ev_St) (x : Unit) (S' : ev_St) (hJ : jm_252 Q a0 S = some (x, S')) : ev_Ref d 252 [.ref 621, .int (Int32.ofInt a0)] S (ev_eU x) S' (ev_PU x) := by
  obtain ⟨d, rfl⟩ : ∃ e, d = e + 1 := ⟨d - 1, by omega⟩
  refine ev_ref_of (P := ev_PU) (lv := [(0, .ref 621), (1, .int (Int32.ofInt a0))]) (by decide +kernel) (by (try simp only [ev_sum, ev_nv_cat]); first | done | rfl) (by (try simp only [lv_args, ev_nv_cat]); first | done | rfl) ?_ x S' hJ
  unfold jm_252
  refine ev_r_aload_n (pc := 0) (k := 0) (v := .ref 621) trivial (by decide +kernel) (by rfl) ?_
  refine ev_r_iconst (pc := 1) (k := 1) (by decide +kernel) ?_
  refine ev_r_virt (pc := 2) (y := 415) (mi := 234) (na := 1) (k := 621) (as := [.int (Int32.ofInt 1)]) (rest := []) (encc := ev_oU) (Q := ev_PU) (fun x S1 h => jt_234 d (by omega) Q 1 (by decide) S x S1 h) (by exact ev_ob_621) (by decide +kernel) (by decide +kernel) (by decide +kernel) (by decide +kernel) rfl (by (try simp only [ev_sum, ev_nv_cat]); first | done | rfl) ?_
  intro _ s1 _
  show ev_w _ _ _ _ _ [] _ _ _ _
  refine ev_r_aload_n (pc := 5) (k := 0) (v := .ref 621) trivial (by decide +kernel) (by rfl) ?_
  refine ev_r_getC (pc := 6) (y := 111) (ci := 13) (f := 47) (fin := 1) (k' := 655) (by decide +kernel) (by decide +kernel) (by exact ev_ob_621) rfl rfl ?_
  refine ev_r_iload_n (pc := 9) (k := 1) (v := Int32.ofInt a0) (by decide +kernel) (by rfl) ?_
  refine ev_r_aload_n (pc := 10) (k := 0) (v := .ref 621) trivial (by decide +kernel) (by rfl) ?_
  refine ev_r_iconst (pc := 11) (k := 0) (by decide +kernel) ?_
  refine ev_r_virt (pc := 12) (y := 409) (mi := 233) (na := 1) (k := 621) (as := [.int (Int32.ofInt 0)]) (rest := [.int (Int32.ofInt a0), .ref 655]) (encc := ev_oI) (Q := ev_rng) (fun x S1 h => jt_233 d (by omega) Q 0 (by decide) s1 x S1 h) (by exact ev_ob_621) (by decide +kernel) (by decide +kernel) (by decide +kernel) (by decide +kernel) rfl (by (try simp only [ev_sum, ev_nv_cat]); first | done | rfl) ?_
  intro x3 s2 hx3
  show ev_w _ _ _ _ _ [.int (Int32.ofInt x3), .int (Int32.ofInt a0), .ref 655] _ _ _ _
  refine ev_r_bipush (pc := 15) (k := 94) (by decide +kernel) (by decide +kernel) ?_
  refine ev_r_jn (Q := fun K => ∀ (x6 : Int) (hx6 : ev_rng x6), ∀ (x5 : Int) (hx5 : ev_rng x5), ∀ (r4 : Nat) (hr4 : ev_isAb r4 1 .boolean = true), ∀ (s10 : ev_St) (w7 : List (Nat × Value)), ev_lk w7 0 = some (.ref 621) → ev_lk w7 1 = some (.int (Int32.ofInt a0)) → ev_w none (ev_Mof 252) d 25 w7 [.int (Int32.ofInt x6), .int (Int32.ofInt x5), .ref r4] s10 (K x6 x5 r4 s10) ev_eU ev_PU) ?_ ?_
  · intro x6 hx6 x5 hx5 r4 hr4 s10 w7 e8 e9
    refine ev_r_chk ?_
    intro c12
    refine ev_r_bast (pc := 25) (ty := .boolean) (Or.inr rfl) (ev_nar_bl c12) hx6 hx5 (by decide +kernel) (by exact hr4) ?_
    intro s11
    refine ev_r_aload_n (pc := 26) (k := 0) (v := .ref 621) trivial (by decide +kernel) (by exact e8) ?_
    refine ev_r_aload_n (pc := 27) (k := 0) (v := .ref 621) trivial (by decide +kernel) (by exact e8) ?_
    refine ev_r_getC (pc := 28) (y := 111) (ci := 13) (f := 47) (fin := 1) (k' := 655) (by decide +kernel) (by decide +kernel) (by exact ev_ob_621) rfl rfl ?_
    refine ev_r_iload_n (pc := 31) (k := 1) (v := Int32.ofInt a0) (by decide +kernel) (by exact e9) ?_
    refine ev_r_bald (pc := 32) (ty := .boolean) (Or.inr rfl) ha0 (by decide +kernel) (by exact ev_ab_655) ?_
    intro x13 hx13
    refine ev_r_jn (Q := fun K => ∀ (x14 : Int) (hx14 : ev_rng x14), ∀ (s18 : ev_St) (w15 : List (Nat × Value)), ev_lk w15 0 = some (.ref 621) → ev_lk w15 1 = some (.int (Int32.ofInt a0)) → ev_w none (ev_Mof 252) d 41 w15 [.int (Int32.ofInt x14), .ref 621] s18 (K x14 s18) ev_eU ev_PU) ?_ ?_
    · intro x14 hx14 s18 w15 e16 e17
      refine ev_r_virt (pc := 41) (y := 415) (mi := 234) (na := 1) (k := 621) (as := [.int (Int32.ofInt x14)]) (rest := []) (encc := ev_oU) (Q := ev_PU) (fun x S1 h => jt_234 d (by omega) Q x14 hx14 s18 x S1 h) (by exact ev_ob_621) (by decide +kernel) (by decide +kernel) (by decide +kernel) (by decide +kernel) rfl (by (try simp only [ev_sum, ev_nv_cat]); first | done | rfl) ?_
      intro _ s19 _
      show ev_w _ _ _ _ _ [] _ _ _ _
      refine ev_r_aload_n (pc := 44) (k := 0) (v := .ref 621) trivial (by decide +kernel) (by exact e16) ?_
      refine ev_r_getC (pc := 45) (y := 117) (ci := 13) (f := 49) (fin := 1) (k' := 657) (by decide +kernel) (by decide +kernel) (by exact ev_ob_621) rfl rfl ?_
      refine ev_r_iload_n (pc := 48) (k := 1) (v := Int32.ofInt a0) (by decide +kernel) (by exact e17) ?_
      refine ev_r_iconst (pc := 49) (k := 0) (by decide +kernel) ?_
      refine ev_r_iast (pc := 50) (by decide) ha0 (by decide +kernel) (by exact ev_ab_657) ?_
      intro s20
      refine ev_r_aload_n (pc := 51) (k := 0) (v := .ref 621) trivial (by decide +kernel) (by exact e16) ?_
      refine ev_r_getC (pc := 52) (y := 105) (ci := 13) (f := 45) (fin := 1) (k' := 653) (by decide +kernel) (by decide +kernel) (by exact ev_ob_621) rfl rfl ?_
      refine ev_r_iload_n (pc := 55) (k := 1) (v := Int32.ofInt a0) (by decide +kernel) (by exact e17) ?_
      refine ev_r_lconst (pc := 56) (c := 0) (by decide +kernel) ?_
      refine ev_r_last (pc := 57) ha0 (by decide +kernel) (by exact ev_ab_653) ?_
      intro s21
      refine ev_r_aload_n (pc := 58) (k := 0) (v := .ref 621) trivial (by decide +kernel) (by exact e16) ?_
      refine ev_r_getC (pc := 59) (y := 108) (ci := 13) (f := 46) (fin := 1) (k' := 654) (by decide +kernel) (by decide +kernel) (by exact ev_ob_621) rfl rfl ?_
      refine ev_r_iload_n (pc := 62) (k := 1) (v := Int32.ofInt a0) (by decide +kernel) (by exact e17) ?_
      refine ev_r_lconst (pc := 63) (c := 0) (by decide +kernel) ?_
      refine ev_r_last (pc := 64) ha0 (by decide +kernel) (by exact ev_ab_654) ?_
      intro s22
      refine ev_r_aload_n (pc := 65) (k := 0) (v := .ref 621) trivial (by decide +kernel) (by exact e16) ?_
      refine ev_r_getC (pc := 66) (y := 114) (ci := 13) (f := 48) (fin := 1) (k' := 656) (by decide +kernel) (by decide +kernel) (by exact ev_ob_621) rfl rfl ?_
      refine ev_r_iload_n (pc := 69) (k := 1) (v := Int32.ofInt a0) (by decide +kernel) (by exact e17) ?_
      refine ev_r_iconst (pc := 70) (k := 0) (by decide +kernel) ?_
      refine ev_r_bast (pc := 71) (ty := .boolean) (Or.inr rfl) (ev_nar_bl (by decide : ev_bl 0)) (by decide) ha0 (by decide +kernel) (by exact ev_ab_656) ?_
      intro s23
      exact ev_r_return (pc := 72) (x := ()) trivial (by decide +kernel) (by decide +kernel) rfl
    · intro K41 hK41
      refine ev_r_if (pc := 33) (q := .eq) (o := 7) (t := 40) (c := x13 = 0) (by decide +kernel) (ev_k_eq hx13 ev_rng0) (by decide +kernel) ?_ ?_
      · intro c24
        refine ev_r_iconst (pc := 40) (k := 0) (by decide +kernel) ?_
        exact hK41 0 (by decide) s11 _ (by exact e8) (by exact e9)
      · intro c24
        refine ev_r_iconst (pc := 36) (k := 1) (by decide +kernel) ?_
        refine ev_r_goto (pc := 37) (o := 4) (t := 41) (by decide +kernel) (by decide +kernel) ?_
        exact hK41 1 (by decide) s11 _ (by exact e8) (by exact e9)
  · intro K25 hK25
    refine ev_r_icmp (pc := 17) (q := .ne) (o := 7) (t := 24) (c := x3 ≠ 94) (by decide +kernel) (ev_k_ne hx3 (by decide)) (by decide +kernel) ?_ ?_
    · intro c25
      refine ev_r_iconst (pc := 24) (k := 0) (by decide +kernel) ?_
      exact hK25 0 (by decide) a0 ha0 655 ev_ab_655 s2 _ (by rfl) (by rfl)
    · intro c25
      refine ev_r_iconst (pc := 20) (k := 1) (by decide +kernel) ?_
      refine ev_r_goto (pc := 21) (o := 4) (t := 25) (by decide +kernel) (by decide +kernel) ?_
      exact hK25 1 (by decide) a0 ha0 655 ev_ab_655 s2 _ (by rfl) (by rfl)
def jb_253_7 (Q : Nat)   (K7 : Int → ev_St → Option ((Unit) × ev_St)) (x1 : Int) (s5 : ev_St) : Option ((Unit) × ev_St) := if x1 < 0 then (some ((), s5)) else (ev_b (s5.1 621 25) fun x7 => if x7 ≠ 0 then (some ((), s5)) else (ev_bd (jm_233 Q 0 s5) fun x10 s9 => ev_bd (jm_233 Q 1 s9) fun x12 s11 => ev_bd (jm_250 Q 0 s11) fun x14 s13 => ev_jn (fun (x15 : Int) (s19 : ev_St) => K7 x15 s19) fun K369 => if x10 ≠ 93 then (if x10 ≠ 91 then (ev_jn (fun  (s28 : ev_St) => if x14 ≤ 0 then (ev_jn (fun  (s34 : ev_St) => ev_bd (jm_248 Q x1 s34) fun _ s35 => ev_jn (fun (x38 : Int) (x37 : Int) (r36 : Nat) (s42 : ev_St) => ev_if ((0 : Int) ≤ x37 ∧ x37 < (ev_aln r36 : Int)) (ev_b (ev_pI s42 r36 (Int.toNat x37) x38) fun s43 => ev_bd (jm_234 Q 2 s43) fun _ s44 => K369 x1 s44)) fun K355 => if x10 ≠ 38 then (K355 2 x1 657 s35) else (K355 1 x1 657 s35)) fun K334 => ev_jn (fun  (s51 : ev_St) => ev_jn (fun  (s55 : ev_St) => ev_b (ev_pI s55 621 25 1) fun s56 => K369 x1 s56) fun K364 => if x10 ≠ 45 then (K364  s51) else (if x12 ≠ 45 then (K364  s51) else (K334  s51))) fun K322 => if x10 ≠ 38 then (K322  s28) else (if x12 = 38 then (K334  s28) else (K322  s28))) else (ev_bd (jm_251 Q 0 s28) fun x62 s61 => ev_bd (jm_234 Q x14 s61) fun _ s63 => ev_bd (jm_233 Q 0 s63) fun x65 s64 => ev_jn (fun (x66 : Int) (x67 : Int) (s73 : ev_St) => ev_b (s73.1 621 40) fun x74 => ev_b (ev_iand x74 1) fun x75 => ev_jn (fun (x78 : Int) (x77 : Int) (x76 : Int) (s82 : ev_St) => ev_bd (jm_245 Q x76 x77 x78 s82) fun _ s83 => ev_bd (jm_249 Q x1 s83) fun _ s84 => K369 x1 s84) fun K299 => if x75 ≤ 0 then (K299 0 x67 x66 s73) else (K299 1 x67 x66 s73)) fun K280 => if x65 ≠ 45 then (K280 x62 x62 s64) else (ev_bd (jm_233 Q 1 s64) fun x88 s87 => if x88 = 45 then (K280 x62 x62 s87) else (ev_bd (jm_250 Q 1 s87) fun x91 s90 => ev_jn (fun (x92 : Int) (x93 : Int) (s99 : ev_St) => ev_b (s99.1 621 25) fun x100 => ev_jn (fun (x101 : Int) (x102 : Int) (s109 : ev_St) => ev_if (ev_bl x102) (ev_b (ev_pI s109 621 25 x102) fun s110 => ev_ck (1 + x92) fun x112 => ev_bd (jm_234 Q x112 s110) fun _ s113 => K280 x62 x101 s113)) fun K269 => ev_jn (fun (x114 : Int) (s121 : ev_St) => K269 x114 1 s121) fun K264 => if x100 ≠ 0 then (K264 x93 s99) else (if x62 ≤ x93 then (K269 x93 0 s99) else (K264 x93 s99))) fun K247 => if x91 ≤ 0 then (K247 x91 ((-1)) s90) else (ev_bd (jm_251 Q 1 s90) fun x126 s125 => K247 x91 x126 s125))))) fun K184 => if x10 ≠ 92 then (K184  s13) else (ev_bd (jm_247 Q x12 s13) fun x129 s128 => if x129 = 0 then (K184  s128) else (ev_bd (jm_246 Q x12 s128) fun _ s131 => ev_bd (jm_234 Q 2 s131) fun _ s132 => ev_bd (jm_249 Q x1 s132) fun _ s133 => K369 x1 s133))) else (ev_ck (x1 + 1) fun x134 => ev_bd (jm_252 Q x134 s13) fun _ s135 => K369 x134 s135)) else (ev_bd (jm_248 Q x1 s13) fun _ s136 => ev_if ((0 : Int) ≤ x1 ∧ x1 < (ev_aln 655 : Int)) (ev_b (s136.1 655 (Int.toNat x1)) fun x137 => ev_jn (fun (y138 : Int64) (s142 : ev_St) => ev_b (ev_pL s142 621 41 y138) fun s143 => ev_if ((0 : Int) ≤ x1 ∧ x1 < (ev_aln 655 : Int)) (ev_b (s143.1 655 (Int.toNat x1)) fun x144 => ev_jn (fun (y145 : Int64) (s149 : ev_St) => ev_b (ev_pL s149 621 42 y145) fun s150 => ev_bd (jm_234 Q 1 s150) fun _ s151 => ev_ck (x1 + (-1)) fun x152 => if x152 < 0 then (K369 x152 s151) else (ev_bd (jm_249 Q x152 s151) fun _ s154 => K369 x152 s154)) fun K113 => if x144 = 0 then (ev_if ((0 : Int) ≤ x1 ∧ x1 < (ev_aln 652 : Int)) (ev_b (s143.2.1 652 (Int.toNat x1)) fun y156 => K113 y156 s143)) else (ev_if ((0 : Int) ≤ x1 ∧ x1 < (ev_aln 652 : Int)) (ev_b (s143.2.1 652 (Int.toNat x1)) fun y157 => ev_b (y157 ^^^ (-1)) fun y158 => ev_b (y158 &&& (4294967295)) fun y159 => K113 y159 s143)))) fun K77 => if x137 = 0 then (ev_if ((0 : Int) ≤ x1 ∧ x1 < (ev_aln 651 : Int)) (ev_b (s136.2.1 651 (Int.toNat x1)) fun y161 => K77 y161 s136)) else (ev_if ((0 : Int) ≤ x1 ∧ x1 < (ev_aln 651 : Int)) (ev_b (s136.2.1 651 (Int.toNat x1)) fun y162 => ev_b (y162 ^^^ (-1)) fun y163 => K77 y163 s136))))))
def jl_253_7 (Q : Nat)   : Nat → Int → ev_St → Option ((Unit) × ev_St)
  | 0 => fun _ _ => none
  | q + 1 => jb_253_7 Q   (jl_253_7 Q   q)
theorem jbt_253_7 (d : Nat) (hd : 6 ≤ d + 1) (Q : Nat)     (K7 : Int → ev_St → Option ((Unit) × ev_St)) (hK7 : ∀ (x1 : Int) (hx1 : ev_rng x1), ∀ (s5 : ev_St) (w2 : List (Nat × Value)), ev_lk w2 0 = some (.ref 621) → ev_lk w2 1 = some (.int (Int32.ofInt x1)) → ev_w none (ev_Mof 253) d 7 w2 [] s5 (K7 x1 s5) ev_eU ev_PU) : ∀ (x1 : Int) (hx1 : ev_rng x1), ∀ (s5 : ev_St) (w2 : List (Nat × Value)), ev_lk w2 0 = some (.ref 621) → ev_lk w2 1 = some (.int (Int32.ofInt x1)) → ev_w none (ev_Mof 253) d 7 w2 [] s5 (jb_253_7 Q   K7 x1 s5) ev_eU ev_PU := by
  intro x1 hx1 s5 w2 e3 e4
  unfold jb_253_7
  refine ev_r_iload_n (pc := 7) (k := 1) (v := Int32.ofInt x1) (by decide +kernel) (by exact e4) ?_
  refine ev_r_if (pc := 8) (q := .lt) (o := 364) (t := 372) (c := x1 < 0) (by decide +kernel) (ev_k_lt hx1 ev_rng0) (by decide +kernel) ?_ ?_
  · intro c6
    exact ev_r_return (pc := 372) (x := ()) trivial (by decide +kernel) (by decide +kernel) rfl
  · intro c6
    refine ev_r_aload_n (pc := 11) (k := 0) (v := .ref 621) trivial (by decide +kernel) (by exact e3) ?_
    refine ev_r_getI (pc := 12) (y := 352) (ci := 13) (f := 25) (fin := 0) (by decide +kernel) (by decide +kernel) (by exact ev_ob_621) rfl ?_
    intro x7 hx7
    refine ev_r_if (pc := 15) (q := .ne) (o := 357) (t := 372) (c := x7 ≠ 0) (by decide +kernel) (ev_k_ne hx7 ev_rng0) (by decide +kernel) ?_ ?_
    · intro c8
      exact ev_r_return (pc := 372) (x := ()) trivial (by decide +kernel) (by decide +kernel) rfl
    · intro c8
      refine ev_r_aload_n (pc := 18) (k := 0) (v := .ref 621) trivial (by decide +kernel) (by exact e3) ?_
      refine ev_r_iconst (pc := 19) (k := 0) (by decide +kernel) ?_
      refine ev_r_virt (pc := 20) (y := 409) (mi := 233) (na := 1) (k := 621) (as := [.int (Int32.ofInt 0)]) (rest := []) (encc := ev_oI) (Q := ev_rng) (fun x S1 h => jt_233 d (by omega) Q 0 (by decide) s5 x S1 h) (by exact ev_ob_621) (by decide +kernel) (by decide +kernel) (by decide +kernel) (by decide +kernel) rfl (by (try simp only [ev_sum, ev_nv_cat]); first | done | rfl) ?_
      intro x10 s9 hx10
      show ev_w _ _ _ _ _ [.int (Int32.ofInt x10)] _ _ _ _
      refine ev_r_istore_n (pc := 23) (k := 2) (by decide +kernel) (by decide +kernel) rfl ?_
      refine ev_r_aload_n (pc := 24) (k := 0) (v := .ref 621) trivial (by decide +kernel) (by exact (ev_l1 e3 (by decide) (by decide))) ?_
      refine ev_r_iconst (pc := 25) (k := 1) (by decide +kernel) ?_
      refine ev_r_virt (pc := 26) (y := 409) (mi := 233) (na := 1) (k := 621) (as := [.int (Int32.ofInt 1)]) (rest := []) (encc := ev_oI) (Q := ev_rng) (fun x S1 h => jt_233 d (by omega) Q 1 (by decide) s9 x S1 h) (by exact ev_ob_621) (by decide +kernel) (by decide +kernel) (by decide +kernel) (by decide +kernel) rfl (by (try simp only [ev_sum, ev_nv_cat]); first | done | rfl) ?_
      intro x12 s11 hx12
      show ev_w _ _ _ _ _ [.int (Int32.ofInt x12)] _ _ _ _
      refine ev_r_istore_n (pc := 29) (k := 3) (by decide +kernel) (by decide +kernel) rfl ?_
      refine ev_r_aload_n (pc := 30) (k := 0) (v := .ref 621) trivial (by decide +kernel) (by exact (ev_l1 (ev_l1 e3 (by decide) (by decide)) (by decide) (by decide))) ?_
      refine ev_r_iconst (pc := 31) (k := 0) (by decide +kernel) ?_
      refine ev_r_virt (pc := 32) (y := 422) (mi := 250) (na := 1) (k := 621) (as := [.int (Int32.ofInt 0)]) (rest := []) (encc := ev_oI) (Q := ev_rng) (fun x S1 h => jt_250 d (by omega) Q 0 (by decide) s11 x S1 h) (by exact ev_ob_621) (by decide +kernel) (by decide +kernel) (by decide +kernel) (by decide +kernel) rfl (by (try simp only [ev_sum, ev_nv_cat]); first | done | rfl) ?_
      intro x14 s13 hx14
      show ev_w _ _ _ _ _ [.int (Int32.ofInt x14)] _ _ _ _
      refine ev_r_istore (pc := 35) (k := 4) (by decide +kernel) (by decide +kernel) rfl ?_
      refine ev_r_iload_n (pc := 37) (k := 2) (v := Int32.ofInt x10) (by decide +kernel) (by exact (ev_l1 (ev_lk_st1 ev_lk_st1_self (by decide) rfl) (by decide) (by decide))) ?_
      refine ev_r_bipush (pc := 38) (k := 93) (by decide +kernel) (by decide +kernel) ?_
      refine ev_r_jn (Q := fun K => ∀ (x15 : Int) (hx15 : ev_rng x15), ∀ (s19 : ev_St) (w16 : List (Nat × Value)), ev_lk w16 0 = some (.ref 621) → ev_lk w16 1 = some (.int (Int32.ofInt x15)) → ev_w none (ev_Mof 253) d 369 w16 [] s19 (K x15 s19) ev_eU ev_PU) ?_ ?_
      · intro x15 hx15 s19 w16 e17 e18
        refine ev_r_goto (pc := 369) (o := (-362)) (t := 7) (by decide +kernel) (by decide +kernel) ?_
        exact hK7 x15 hx15 s19 _ (by exact e17) (by exact e18)
      · intro K369 hK369
        refine ev_r_icmp (pc := 40) (q := .ne) (o := 96) (t := 136) (c := x10 ≠ 93) (by decide +kernel) (ev_k_ne hx10 (by decide)) (by decide +kernel) ?_ ?_
        · intro c20
          refine ev_r_iload_n (pc := 136) (k := 2) (v := Int32.ofInt x10) (by decide +kernel) (by exact (ev_l1 (ev_lk_st1 ev_lk_st1_self (by decide) rfl) (by decide) (by decide))) ?_
          refine ev_r_bipush (pc := 137) (k := 91) (by decide +kernel) (by decide +kernel) ?_
          refine ev_r_icmp (pc := 139) (q := .ne) (o := 14) (t := 153) (c := x10 ≠ 91) (by decide +kernel) (ev_k_ne hx10 (by decide)) (by decide +kernel) ?_ ?_
          · intro c21
            refine ev_r_iload_n (pc := 153) (k := 2) (v := Int32.ofInt x10) (by decide +kernel) (by exact (ev_l1 (ev_lk_st1 ev_lk_st1_self (by decide) rfl) (by decide) (by decide))) ?_
            refine ev_r_bipush (pc := 154) (k := 92) (by decide +kernel) (by decide +kernel) ?_
            refine ev_r_jn (Q := fun K => ∀ (s28 : ev_St) (w22 : List (Nat × Value)), ev_lk w22 0 = some (.ref 621) → ev_lk w22 1 = some (.int (Int32.ofInt x1)) → ev_lk w22 2 = some (.int (Int32.ofInt x10)) → ev_lk w22 3 = some (.int (Int32.ofInt x12)) → ev_lk w22 4 = some (.int (Int32.ofInt x14)) → ev_w none (ev_Mof 253) d 184 w22 [] s28 (K  s28) ev_eU ev_PU) ?_ ?_
            · intro  s28 w22 e23 e24 e25 e26 e27
              refine ev_r_iload (pc := 184) (k := 4) (v := Int32.ofInt x14) (by decide +kernel) (by exact e27) ?_
              refine ev_r_if (pc := 186) (q := .le) (o := 124) (t := 310) (c := x14 ≤ 0) (by decide +kernel) (ev_k_le hx14 ev_rng0) (by decide +kernel) ?_ ?_
              · intro c29
                refine ev_r_iload_n (pc := 310) (k := 2) (v := Int32.ofInt x10) (by decide +kernel) (by exact e25) ?_
                refine ev_r_bipush (pc := 311) (k := 38) (by decide +kernel) (by decide +kernel) ?_
                refine ev_r_jn (Q := fun K => ∀ (s34 : ev_St) (w30 : List (Nat × Value)), ev_lk w30 0 = some (.ref 621) → ev_lk w30 1 = some (.int (Int32.ofInt x1)) → ev_lk w30 2 = some (.int (Int32.ofInt x10)) → ev_w none (ev_Mof 253) d 334 w30 [] s34 (K  s34) ev_eU ev_PU) ?_ ?_
                · intro  s34 w30 e31 e32 e33
                  refine ev_r_aload_n (pc := 334) (k := 0) (v := .ref 621) trivial (by decide +kernel) (by exact e31) ?_
                  refine ev_r_iload_n (pc := 335) (k := 1) (v := Int32.ofInt x1) (by decide +kernel) (by exact e32) ?_
                  refine ev_r_virt (pc := 336) (y := 425) (mi := 248) (na := 1) (k := 621) (as := [.int (Int32.ofInt x1)]) (rest := []) (encc := ev_oU) (Q := ev_PU) (fun x S1 h => jt_248 d (by omega) Q x1 hx1 s34 x S1 h) (by exact ev_ob_621) (by decide +kernel) (by decide +kernel) (by decide +kernel) (by decide +kernel) rfl (by (try simp only [ev_sum, ev_nv_cat]); first | done | rfl) ?_
                  intro _ s35 _
                  show ev_w _ _ _ _ _ [] _ _ _ _
                  refine ev_r_aload_n (pc := 339) (k := 0) (v := .ref 621) trivial (by decide +kernel) (by exact e31) ?_
                  refine ev_r_getC (pc := 340) (y := 117) (ci := 13) (f := 49) (fin := 1) (k' := 657) (by decide +kernel) (by decide +kernel) (by exact ev_ob_621) rfl rfl ?_
                  refine ev_r_iload_n (pc := 343) (k := 1) (v := Int32.ofInt x1) (by decide +kernel) (by exact e32) ?_
                  refine ev_r_iload_n (pc := 344) (k := 2) (v := Int32.ofInt x10) (by decide +kernel) (by exact e33) ?_
                  refine ev_r_bipush (pc := 345) (k := 38) (by decide +kernel) (by decide +kernel) ?_
                  refine ev_r_jn (Q := fun K => ∀ (x38 : Int) (hx38 : ev_rng x38), ∀ (x37 : Int) (hx37 : ev_rng x37), ∀ (r36 : Nat) (hr36 : ev_isAb r36 1 .int = true), ∀ (s42 : ev_St) (w39 : List (Nat × Value)), ev_lk w39 0 = some (.ref 621) → ev_lk w39 1 = some (.int (Int32.ofInt x1)) → ev_w none (ev_Mof 253) d 355 w39 [.int (Int32.ofInt x38), .int (Int32.ofInt x37), .ref r36] s42 (K x38 x37 r36 s42) ev_eU ev_PU) ?_ ?_
                  · intro x38 hx38 x37 hx37 r36 hr36 s42 w39 e40 e41
                    refine ev_r_iast (pc := 355) hx38 hx37 (by decide +kernel) (by exact hr36) ?_
                    intro s43
                    refine ev_r_aload_n (pc := 356) (k := 0) (v := .ref 621) trivial (by decide +kernel) (by exact e40) ?_
                    refine ev_r_iconst (pc := 357) (k := 2) (by decide +kernel) ?_
                    refine ev_r_virt (pc := 358) (y := 415) (mi := 234) (na := 1) (k := 621) (as := [.int (Int32.ofInt 2)]) (rest := []) (encc := ev_oU) (Q := ev_PU) (fun x S1 h => jt_234 d (by omega) Q 2 (by decide) s43 x S1 h) (by exact ev_ob_621) (by decide +kernel) (by decide +kernel) (by decide +kernel) (by decide +kernel) rfl (by (try simp only [ev_sum, ev_nv_cat]); first | done | rfl) ?_
                    intro _ s44 _
                    show ev_w _ _ _ _ _ [] _ _ _ _
                    refine ev_r_goto (pc := 361) (o := 8) (t := 369) (by decide +kernel) (by decide +kernel) ?_
                    exact hK369 x1 hx1 s44 _ (by exact e40) (by exact e41)
                  · intro K355 hK355
                    refine ev_r_icmp (pc := 347) (q := .ne) (o := 7) (t := 354) (c := x10 ≠ 38) (by decide +kernel) (ev_k_ne hx10 (by decide)) (by decide +kernel) ?_ ?_
                    · intro c45
                      refine ev_r_iconst (pc := 354) (k := 2) (by decide +kernel) ?_
                      exact hK355 2 (by decide) x1 hx1 657 ev_ab_657 s35 _ (by exact e31) (by exact e32)
                    · intro c45
                      refine ev_r_iconst (pc := 350) (k := 1) (by decide +kernel) ?_
                      refine ev_r_goto (pc := 351) (o := 4) (t := 355) (by decide +kernel) (by decide +kernel) ?_
                      exact hK355 1 (by decide) x1 hx1 657 ev_ab_657 s35 _ (by exact e31) (by exact e32)
                · intro K334 hK334
                  refine ev_r_jn (Q := fun K => ∀ (s51 : ev_St) (w46 : List (Nat × Value)), ev_lk w46 0 = some (.ref 621) → ev_lk w46 1 = some (.int (Int32.ofInt x1)) → ev_lk w46 2 = some (.int (Int32.ofInt x10)) → ev_lk w46 3 = some (.int (Int32.ofInt x12)) → ev_w none (ev_Mof 253) d 322 w46 [] s51 (K  s51) ev_eU ev_PU) ?_ ?_
                  · intro  s51 w46 e47 e48 e49 e50
                    refine ev_r_iload_n (pc := 322) (k := 2) (v := Int32.ofInt x10) (by decide +kernel) (by exact e49) ?_
                    refine ev_r_bipush (pc := 323) (k := 45) (by decide +kernel) (by decide +kernel) ?_
                    refine ev_r_jn (Q := fun K => ∀ (s55 : ev_St) (w52 : List (Nat × Value)), ev_lk w52 0 = some (.ref 621) → ev_lk w52 1 = some (.int (Int32.ofInt x1)) → ev_w none (ev_Mof 253) d 364 w52 [] s55 (K  s55) ev_eU ev_PU) ?_ ?_
                    · intro  s55 w52 e53 e54
                      refine ev_r_aload_n (pc := 364) (k := 0) (v := .ref 621) trivial (by decide +kernel) (by exact e53) ?_
                      refine ev_r_iconst (pc := 365) (k := 1) (by decide +kernel) ?_
                      refine ev_r_putI (pc := 366) (y := 352) (ci := 13) (f := 25) (by decide) (by decide +kernel) (by decide +kernel) (by exact ev_ob_621) rfl (ev_fit_bl (by decide : ev_bl 1)) ?_
                      intro s56
                      exact hK369 x1 hx1 s56 _ (by exact e53) (by exact e54)
                    · intro K364 hK364
                      refine ev_r_icmp (pc := 325) (q := .ne) (o := 39) (t := 364) (c := x10 ≠ 45) (by decide +kernel) (ev_k_ne hx10 (by decide)) (by decide +kernel) ?_ ?_
                      · intro c57
                        exact hK364  s51 _ (by exact e47) (by exact e48)
                      · intro c57
                        refine ev_r_iload_n (pc := 328) (k := 3) (v := Int32.ofInt x12) (by decide +kernel) (by exact e50) ?_
                        refine ev_r_bipush (pc := 329) (k := 45) (by decide +kernel) (by decide +kernel) ?_
                        refine ev_r_icmp (pc := 331) (q := .ne) (o := 33) (t := 364) (c := x12 ≠ 45) (by decide +kernel) (ev_k_ne hx12 (by decide)) (by decide +kernel) ?_ ?_
                        · intro c58
                          exact hK364  s51 _ (by exact e47) (by exact e48)
                        · intro c58
                          exact hK334  s51 _ (by exact e47) (by exact e48) (by exact e49)
                  · intro K322 hK322
                    refine ev_r_icmp (pc := 313) (q := .ne) (o := 9) (t := 322) (c := x10 ≠ 38) (by decide +kernel) (ev_k_ne hx10 (by decide)) (by decide +kernel) ?_ ?_
                    · intro c59
                      exact hK322  s28 _ (by exact e23) (by exact e24) (by exact e25) (by exact e26)
                    · intro c59
                      refine ev_r_iload_n (pc := 316) (k := 3) (v := Int32.ofInt x12) (by decide +kernel) (by exact e26) ?_
                      refine ev_r_bipush (pc := 317) (k := 38) (by decide +kernel) (by decide +kernel) ?_
                      refine ev_r_icmp (pc := 319) (q := .eq) (o := 15) (t := 334) (c := x12 = 38) (by decide +kernel) (ev_k_eq hx12 (by decide)) (by decide +kernel) ?_ ?_
                      · intro c60
                        exact hK334  s28 _ (by exact e23) (by exact e24) (by exact e25)
                      · intro c60
                        exact hK322  s28 _ (by exact e23) (by exact e24) (by exact e25) (by exact e26)
              · intro c29
                refine ev_r_aload_n (pc := 189) (k := 0) (v := .ref 621) trivial (by decide +kernel) (by exact e23) ?_
                refine ev_r_iconst (pc := 190) (k := 0) (by decide +kernel) ?_
                refine ev_r_virt (pc := 191) (y := 439) (mi := 251) (na := 1) (k := 621) (as := [.int (Int32.ofInt 0)]) (rest := []) (encc := ev_oI) (Q := ev_rng) (fun x S1 h => jt_251 d (by omega) Q 0 (by decide) s28 x S1 h) (by exact ev_ob_621) (by decide +kernel) (by decide +kernel) (by decide +kernel) (by decide +kernel) rfl (by (try simp only [ev_sum, ev_nv_cat]); first | done | rfl) ?_
                intro x62 s61 hx62
                show ev_w _ _ _ _ _ [.int (Int32.ofInt x62)] _ _ _ _
                refine ev_r_istore (pc := 194) (k := 5) (by decide +kernel) (by decide +kernel) rfl ?_
                refine ev_r_iload (pc := 196) (k := 5) (v := Int32.ofInt x62) (by decide +kernel) (by exact ev_lk_st1_self) ?_
                refine ev_r_istore (pc := 198) (k := 6) (by decide +kernel) (by decide +kernel) rfl ?_
                refine ev_r_aload_n (pc := 200) (k := 0) (v := .ref 621) trivial (by decide +kernel) (by exact (ev_l1 (ev_l1 e23 (by decide) (by decide)) (by decide) (by decide))) ?_
                refine ev_r_iload (pc := 201) (k := 4) (v := Int32.ofInt x14) (by decide +kernel) (by exact (ev_l1 (ev_lk_st1 e27 (by decide) rfl) (by decide) (by decide))) ?_
                refine ev_r_virt (pc := 203) (y := 415) (mi := 234) (na := 1) (k := 621) (as := [.int (Int32.ofInt x14)]) (rest := []) (encc := ev_oU) (Q := ev_PU) (fun x S1 h => jt_234 d (by omega) Q x14 hx14 s61 x S1 h) (by exact ev_ob_621) (by decide +kernel) (by decide +kernel) (by decide +kernel) (by decide +kernel) rfl (by (try simp only [ev_sum, ev_nv_cat]); first | done | rfl) ?_
                intro _ s63 _
                show ev_w _ _ _ _ _ [] _ _ _ _
                refine ev_r_aload_n (pc := 206) (k := 0) (v := .ref 621) trivial (by decide +kernel) (by exact (ev_l1 (ev_l1 e23 (by decide) (by decide)) (by decide) (by decide))) ?_
                refine ev_r_iconst (pc := 207) (k := 0) (by decide +kernel) ?_
                refine ev_r_virt (pc := 208) (y := 409) (mi := 233) (na := 1) (k := 621) (as := [.int (Int32.ofInt 0)]) (rest := []) (encc := ev_oI) (Q := ev_rng) (fun x S1 h => jt_233 d (by omega) Q 0 (by decide) s63 x S1 h) (by exact ev_ob_621) (by decide +kernel) (by decide +kernel) (by decide +kernel) (by decide +kernel) rfl (by (try simp only [ev_sum, ev_nv_cat]); first | done | rfl) ?_
                intro x65 s64 hx65
                show ev_w _ _ _ _ _ [.int (Int32.ofInt x65)] _ _ _ _
                refine ev_r_bipush (pc := 211) (k := 45) (by decide +kernel) (by decide +kernel) ?_
                refine ev_r_jn (Q := fun K => ∀ (x66 : Int) (hx66 : ev_rng x66), ∀ (x67 : Int) (hx67 : ev_rng x67), ∀ (s73 : ev_St) (w68 : List (Nat × Value)), ev_lk w68 0 = some (.ref 621) → ev_lk w68 1 = some (.int (Int32.ofInt x1)) → ev_lk w68 5 = some (.int (Int32.ofInt x66)) → ev_lk w68 6 = some (.int (Int32.ofInt x67)) → ev_w none (ev_Mof 253) d 280 w68 [] s73 (K x66 x67 s73) ev_eU ev_PU) ?_ ?_
                · intro x66 hx66 x67 hx67 s73 w68 e69 e70 e71 e72
                  refine ev_r_aload_n (pc := 280) (k := 0) (v := .ref 621) trivial (by decide +kernel) (by exact e69) ?_
                  refine ev_r_iload (pc := 281) (k := 5) (v := Int32.ofInt x66) (by decide +kernel) (by exact e71) ?_
                  refine ev_r_iload (pc := 283) (k := 6) (v := Int32.ofInt x67) (by decide +kernel) (by exact e72) ?_
                  refine ev_r_aload_n (pc := 285) (k := 0) (v := .ref 621) trivial (by decide +kernel) (by exact e69) ?_
                  refine ev_r_getI (pc := 286) (y := 384) (ci := 13) (f := 40) (fin := 0) (by decide +kernel) (by decide +kernel) (by exact ev_ob_621) rfl ?_
                  intro x74 hx74
                  refine ev_r_iconst (pc := 289) (k := 1) (by decide +kernel) ?_
                  refine ev_r_iand (pc := 290) (by decide +kernel) ?_
                  intro x75 hx75
                  refine ev_r_jn (Q := fun K => ∀ (x78 : Int) (hx78 : ev_rng x78), ∀ (x77 : Int) (hx77 : ev_rng x77), ∀ (x76 : Int) (hx76 : ev_rng x76), ∀ (s82 : ev_St) (w79 : List (Nat × Value)), ev_lk w79 0 = some (.ref 621) → ev_lk w79 1 = some (.int (Int32.ofInt x1)) → ev_w none (ev_Mof 253) d 299 w79 [.int (Int32.ofInt x78), .int (Int32.ofInt x77), .int (Int32.ofInt x76), .ref 621] s82 (K x78 x77 x76 s82) ev_eU ev_PU) ?_ ?_
                  · intro x78 hx78 x77 hx77 x76 hx76 s82 w79 e80 e81
                    refine ev_r_virt (pc := 299) (y := 442) (mi := 245) (na := 3) (k := 621) (as := [.int (Int32.ofInt x76), .int (Int32.ofInt x77), .int (Int32.ofInt x78)]) (rest := []) (encc := ev_oU) (Q := ev_PU) (fun x S1 h => jt_245 d (by omega) Q x76 x77 x78 hx76 hx77 hx78 s82 x S1 h) (by exact ev_ob_621) (by decide +kernel) (by decide +kernel) (by decide +kernel) (by decide +kernel) rfl (by (try simp only [ev_sum, ev_nv_cat]); first | done | rfl) ?_
                    intro _ s83 _
                    show ev_w _ _ _ _ _ [] _ _ _ _
                    refine ev_r_aload_n (pc := 302) (k := 0) (v := .ref 621) trivial (by decide +kernel) (by exact e80) ?_
                    refine ev_r_iload_n (pc := 303) (k := 1) (v := Int32.ofInt x1) (by decide +kernel) (by exact e81) ?_
                    refine ev_r_virt (pc := 304) (y := 430) (mi := 249) (na := 1) (k := 621) (as := [.int (Int32.ofInt x1)]) (rest := []) (encc := ev_oU) (Q := ev_PU) (fun x S1 h => jt_249 d (by omega) Q x1 hx1 s83 x S1 h) (by exact ev_ob_621) (by decide +kernel) (by decide +kernel) (by decide +kernel) (by decide +kernel) rfl (by (try simp only [ev_sum, ev_nv_cat]); first | done | rfl) ?_
                    intro _ s84 _
                    show ev_w _ _ _ _ _ [] _ _ _ _
                    refine ev_r_goto (pc := 307) (o := 62) (t := 369) (by decide +kernel) (by decide +kernel) ?_
                    exact hK369 x1 hx1 s84 _ (by exact e80) (by exact e81)
                  · intro K299 hK299
                    refine ev_r_if (pc := 291) (q := .le) (o := 7) (t := 298) (c := x75 ≤ 0) (by decide +kernel) (ev_k_le hx75 ev_rng0) (by decide +kernel) ?_ ?_
                    · intro c85
                      refine ev_r_iconst (pc := 298) (k := 0) (by decide +kernel) ?_
                      exact hK299 0 (by decide) x67 hx67 x66 hx66 s73 _ (by exact e69) (by exact e70)
                    · intro c85
                      refine ev_r_iconst (pc := 294) (k := 1) (by decide +kernel) ?_
                      refine ev_r_goto (pc := 295) (o := 4) (t := 299) (by decide +kernel) (by decide +kernel) ?_
                      exact hK299 1 (by decide) x67 hx67 x66 hx66 s73 _ (by exact e69) (by exact e70)
                · intro K280 hK280
                  refine ev_r_icmp (pc := 213) (q := .ne) (o := 67) (t := 280) (c := x65 ≠ 45) (by decide +kernel) (ev_k_ne hx65 (by decide)) (by decide +kernel) ?_ ?_
                  · intro c86
                    exact hK280 x62 hx62 x62 hx62 s64 _ (by exact (ev_l1 (ev_l1 e23 (by decide) (by decide)) (by decide) (by decide))) (by exact (ev_l1 (ev_l1 e24 (by decide) (by decide)) (by decide) (by decide))) (by exact (ev_lk_st1 ev_lk_st1_self (by decide) rfl)) (by exact ev_lk_st1_self)
                  · intro c86
                    refine ev_r_aload_n (pc := 216) (k := 0) (v := .ref 621) trivial (by decide +kernel) (by exact (ev_l1 (ev_l1 e23 (by decide) (by decide)) (by decide) (by decide))) ?_
                    refine ev_r_iconst (pc := 217) (k := 1) (by decide +kernel) ?_
                    refine ev_r_virt (pc := 218) (y := 409) (mi := 233) (na := 1) (k := 621) (as := [.int (Int32.ofInt 1)]) (rest := []) (encc := ev_oI) (Q := ev_rng) (fun x S1 h => jt_233 d (by omega) Q 1 (by decide) s64 x S1 h) (by exact ev_ob_621) (by decide +kernel) (by decide +kernel) (by decide +kernel) (by decide +kernel) rfl (by (try simp only [ev_sum, ev_nv_cat]); first | done | rfl) ?_
                    intro x88 s87 hx88
                    show ev_w _ _ _ _ _ [.int (Int32.ofInt x88)] _ _ _ _
                    refine ev_r_bipush (pc := 221) (k := 45) (by decide +kernel) (by decide +kernel) ?_
                    refine ev_r_icmp (pc := 223) (q := .eq) (o := 57) (t := 280) (c := x88 = 45) (by decide +kernel) (ev_k_eq hx88 (by decide)) (by decide +kernel) ?_ ?_
                    · intro c89
                      exact hK280 x62 hx62 x62 hx62 s87 _ (by exact (ev_l1 (ev_l1 e23 (by decide) (by decide)) (by decide) (by decide))) (by exact (ev_l1 (ev_l1 e24 (by decide) (by decide)) (by decide) (by decide))) (by exact (ev_lk_st1 ev_lk_st1_self (by decide) rfl)) (by exact ev_lk_st1_self)
                    · intro c89
                      refine ev_r_aload_n (pc := 226) (k := 0) (v := .ref 621) trivial (by decide +kernel) (by exact (ev_l1 (ev_l1 e23 (by decide) (by decide)) (by decide) (by decide))) ?_
                      refine ev_r_iconst (pc := 227) (k := 1) (by decide +kernel) ?_
                      refine ev_r_virt (pc := 228) (y := 422) (mi := 250) (na := 1) (k := 621) (as := [.int (Int32.ofInt 1)]) (rest := []) (encc := ev_oI) (Q := ev_rng) (fun x S1 h => jt_250 d (by omega) Q 1 (by decide) s87 x S1 h) (by exact ev_ob_621) (by decide +kernel) (by decide +kernel) (by decide +kernel) (by decide +kernel) rfl (by (try simp only [ev_sum, ev_nv_cat]); first | done | rfl) ?_
                      intro x91 s90 hx91
                      show ev_w _ _ _ _ _ [.int (Int32.ofInt x91)] _ _ _ _
                      refine ev_r_istore (pc := 231) (k := 7) (by decide +kernel) (by decide +kernel) rfl ?_
                      refine ev_r_iload (pc := 233) (k := 7) (v := Int32.ofInt x91) (by decide +kernel) (by exact ev_lk_st1_self) ?_
                      refine ev_r_jn (Q := fun K => ∀ (x92 : Int) (hx92 : ev_rng x92), ∀ (x93 : Int) (hx93 : ev_rng x93), ∀ (s99 : ev_St) (w94 : List (Nat × Value)), ev_lk w94 0 = some (.ref 621) → ev_lk w94 1 = some (.int (Int32.ofInt x1)) → ev_lk w94 5 = some (.int (Int32.ofInt x62)) → ev_lk w94 7 = some (.int (Int32.ofInt x92)) → ev_w none (ev_Mof 253) d 247 w94 [.int (Int32.ofInt x93)] s99 (K x92 x93 s99) ev_eU ev_PU) ?_ ?_
                      · intro x92 hx92 x93 hx93 s99 w94 e95 e96 e97 e98
                        refine ev_r_istore (pc := 247) (k := 6) (by decide +kernel) (by decide +kernel) rfl ?_
                        refine ev_r_aload_n (pc := 249) (k := 0) (v := .ref 621) trivial (by decide +kernel) (by exact (ev_l1 e95 (by decide) (by decide))) ?_
                        refine ev_r_aload_n (pc := 250) (k := 0) (v := .ref 621) trivial (by decide +kernel) (by exact (ev_l1 e95 (by decide) (by decide))) ?_
                        refine ev_r_getI (pc := 251) (y := 352) (ci := 13) (f := 25) (fin := 0) (by decide +kernel) (by decide +kernel) (by exact ev_ob_621) rfl ?_
                        intro x100 hx100
                        refine ev_r_jn (Q := fun K => ∀ (x101 : Int) (hx101 : ev_rng x101), ∀ (x102 : Int) (hx102 : ev_rng x102), ∀ (s109 : ev_St) (w103 : List (Nat × Value)), ev_lk w103 0 = some (.ref 621) → ev_lk w103 1 = some (.int (Int32.ofInt x1)) → ev_lk w103 5 = some (.int (Int32.ofInt x62)) → ev_lk w103 6 = some (.int (Int32.ofInt x101)) → ev_lk w103 7 = some (.int (Int32.ofInt x92)) → ev_w none (ev_Mof 253) d 269 w103 [.int (Int32.ofInt x102), .ref 621] s109 (K x101 x102 s109) ev_eU ev_PU) ?_ ?_
                        · intro x101 hx101 x102 hx102 s109 w103 e104 e105 e106 e107 e108
                          refine ev_r_chk ?_
                          intro c111
                          refine ev_r_putI (pc := 269) (y := 352) (ci := 13) (f := 25) hx102 (by decide +kernel) (by decide +kernel) (by exact ev_ob_621) rfl (ev_fit_bl c111) ?_
                          intro s110
                          refine ev_r_aload_n (pc := 272) (k := 0) (v := .ref 621) trivial (by decide +kernel) (by exact e104) ?_
                          refine ev_r_iconst (pc := 273) (k := 1) (by decide +kernel) ?_
                          refine ev_r_iload (pc := 274) (k := 7) (v := Int32.ofInt x92) (by decide +kernel) (by exact e108) ?_
                          refine ev_r_iadd (pc := 276) (by decide +kernel) ?_
                          intro x112 hx112
                          refine ev_r_virt (pc := 277) (y := 415) (mi := 234) (na := 1) (k := 621) (as := [.int (Int32.ofInt x112)]) (rest := []) (encc := ev_oU) (Q := ev_PU) (fun x S1 h => jt_234 d (by omega) Q x112 hx112 s110 x S1 h) (by exact ev_ob_621) (by decide +kernel) (by decide +kernel) (by decide +kernel) (by decide +kernel) rfl (by (try simp only [ev_sum, ev_nv_cat]); first | done | rfl) ?_
                          intro _ s113 _
                          show ev_w _ _ _ _ _ [] _ _ _ _
                          exact hK280 x62 hx62 x101 hx101 s113 _ (by exact e104) (by exact e105) (by exact e106) (by exact e107)
                        · intro K269 hK269
                          refine ev_r_jn (Q := fun K => ∀ (x114 : Int) (hx114 : ev_rng x114), ∀ (s121 : ev_St) (w115 : List (Nat × Value)), ev_lk w115 0 = some (.ref 621) → ev_lk w115 1 = some (.int (Int32.ofInt x1)) → ev_lk w115 5 = some (.int (Int32.ofInt x62)) → ev_lk w115 6 = some (.int (Int32.ofInt x114)) → ev_lk w115 7 = some (.int (Int32.ofInt x92)) → ev_w none (ev_Mof 253) d 264 w115 [.ref 621] s121 (K x114 s121) ev_eU ev_PU) ?_ ?_
                          · intro x114 hx114 s121 w115 e116 e117 e118 e119 e120
                            refine ev_r_iconst (pc := 264) (k := 1) (by decide +kernel) ?_
                            refine ev_r_goto (pc := 265) (o := 4) (t := 269) (by decide +kernel) (by decide +kernel) ?_
                            exact hK269 x114 hx114 1 (by decide) s121 _ (by exact e116) (by exact e117) (by exact e118) (by exact e119) (by exact e120)
                          · intro K264 hK264
                            refine ev_r_if (pc := 254) (q := .ne) (o := 10) (t := 264) (c := x100 ≠ 0) (by decide +kernel) (ev_k_ne hx100 ev_rng0) (by decide +kernel) ?_ ?_
                            · intro c122
                              exact hK264 x93 hx93 s99 _ (by exact (ev_l1 e95 (by decide) (by decide))) (by exact (ev_l1 e96 (by decide) (by decide))) (by exact (ev_lk_st1 e97 (by decide) rfl)) (by exact ev_lk_st1_self) (by exact (ev_l1 e98 (by decide) (by decide)))
                            · intro c122
                              refine ev_r_iload (pc := 257) (k := 6) (v := Int32.ofInt x93) (by decide +kernel) (by exact ev_lk_st1_self) ?_
                              refine ev_r_iload (pc := 259) (k := 5) (v := Int32.ofInt x62) (by decide +kernel) (by exact (ev_lk_st1 e97 (by decide) rfl)) ?_
                              refine ev_r_icmp (pc := 261) (q := .ge) (o := 7) (t := 268) (c := x62 ≤ x93) (by decide +kernel) (ev_k_ge hx93 hx62) (by decide +kernel) ?_ ?_
                              · intro c123
                                refine ev_r_iconst (pc := 268) (k := 0) (by decide +kernel) ?_
                                exact hK269 x93 hx93 0 (by decide) s99 _ (by exact (ev_l1 e95 (by decide) (by decide))) (by exact (ev_l1 e96 (by decide) (by decide))) (by exact (ev_lk_st1 e97 (by decide) rfl)) (by exact ev_lk_st1_self) (by exact (ev_l1 e98 (by decide) (by decide)))
                              · intro c123
                                exact hK264 x93 hx93 s99 _ (by exact (ev_l1 e95 (by decide) (by decide))) (by exact (ev_l1 e96 (by decide) (by decide))) (by exact (ev_lk_st1 e97 (by decide) rfl)) (by exact ev_lk_st1_self) (by exact (ev_l1 e98 (by decide) (by decide)))
                      · intro K247 hK247
                        refine ev_r_if (pc := 235) (q := .le) (o := 11) (t := 246) (c := x91 ≤ 0) (by decide +kernel) (ev_k_le hx91 ev_rng0) (by decide +kernel) ?_ ?_
                        · intro c124
                          refine ev_r_iconst (pc := 246) (k := -1) (by decide +kernel) ?_
                          exact hK247 x91 hx91 ((-1)) (by decide) s90 _ (by exact (ev_l1 (ev_l1 (ev_l1 e23 (by decide) (by decide)) (by decide) (by decide)) (by decide) (by decide))) (by exact (ev_l1 (ev_l1 (ev_l1 e24 (by decide) (by decide)) (by decide) (by decide)) (by decide) (by decide))) (by exact (ev_l1 (ev_lk_st1 ev_lk_st1_self (by decide) rfl) (by decide) (by decide))) (by exact ev_lk_st1_self)
                        · intro c124
                          refine ev_r_aload_n (pc := 238) (k := 0) (v := .ref 621) trivial (by decide +kernel) (by exact (ev_l1 (ev_l1 (ev_l1 e23 (by decide) (by decide)) (by decide) (by decide)) (by decide) (by decide))) ?_
                          refine ev_r_iconst (pc := 239) (k := 1) (by decide +kernel) ?_
                          refine ev_r_virt (pc := 240) (y := 439) (mi := 251) (na := 1) (k := 621) (as := [.int (Int32.ofInt 1)]) (rest := []) (encc := ev_oI) (Q := ev_rng) (fun x S1 h => jt_251 d (by omega) Q 1 (by decide) s90 x S1 h) (by exact ev_ob_621) (by decide +kernel) (by decide +kernel) (by decide +kernel) (by decide +kernel) rfl (by (try simp only [ev_sum, ev_nv_cat]); first | done | rfl) ?_
                          intro x126 s125 hx126
                          show ev_w _ _ _ _ _ [.int (Int32.ofInt x126)] _ _ _ _
                          refine ev_r_goto (pc := 243) (o := 4) (t := 247) (by decide +kernel) (by decide +kernel) ?_
                          exact hK247 x91 hx91 x126 hx126 s125 _ (by exact (ev_l1 (ev_l1 (ev_l1 e23 (by decide) (by decide)) (by decide) (by decide)) (by decide) (by decide))) (by exact (ev_l1 (ev_l1 (ev_l1 e24 (by decide) (by decide)) (by decide) (by decide)) (by decide) (by decide))) (by exact (ev_l1 (ev_lk_st1 ev_lk_st1_self (by decide) rfl) (by decide) (by decide))) (by exact ev_lk_st1_self)
            · intro K184 hK184
              refine ev_r_icmp (pc := 156) (q := .ne) (o := 28) (t := 184) (c := x10 ≠ 92) (by decide +kernel) (ev_k_ne hx10 (by decide)) (by decide +kernel) ?_ ?_
              · intro c127
                exact hK184  s13 _ (by exact (ev_l1 (ev_l1 (ev_l1 e3 (by decide) (by decide)) (by decide) (by decide)) (by decide) (by decide))) (by exact (ev_l1 (ev_l1 (ev_lk_st1 e4 (by decide) rfl) (by decide) (by decide)) (by decide) (by decide))) (by exact (ev_l1 (ev_lk_st1 ev_lk_st1_self (by decide) rfl) (by decide) (by decide))) (by exact (ev_lk_st1 ev_lk_st1_self (by decide) rfl)) (by exact ev_lk_st1_self)
              · intro c127
                refine ev_r_iload_n (pc := 159) (k := 3) (v := Int32.ofInt x12) (by decide +kernel) (by exact (ev_lk_st1 ev_lk_st1_self (by decide) rfl)) ?_
                refine ev_r_stat (pc := 160) (y := 433) (kind := 2) (mi := 247) (na := 1) (as := [.int (Int32.ofInt x12)]) (rest := []) (encc := ev_oI) (Q := ev_bl) (fun x S1 h => jt_247 d (by omega) Q x12 hx12 s13 x S1 h) (Or.inl rfl) (by decide +kernel) (by decide +kernel) (by decide +kernel) (by decide +kernel) rfl (by (try simp only [ev_sum, ev_nv_cat]); first | done | rfl) ?_
                intro x129 s128 hx129
                replace hx129 := ev_bl_rng hx129
                show ev_w _ _ _ _ _ [.int (Int32.ofInt x129)] _ _ _ _
                refine ev_r_if (pc := 163) (q := .eq) (o := 21) (t := 184) (c := x129 = 0) (by decide +kernel) (ev_k_eq hx129 ev_rng0) (by decide +kernel) ?_ ?_
                · intro c130
                  exact hK184  s128 _ (by exact (ev_l1 (ev_l1 (ev_l1 e3 (by decide) (by decide)) (by decide) (by decide)) (by decide) (by decide))) (by exact (ev_l1 (ev_l1 (ev_lk_st1 e4 (by decide) rfl) (by decide) (by decide)) (by decide) (by decide))) (by exact (ev_l1 (ev_lk_st1 ev_lk_st1_self (by decide) rfl) (by decide) (by decide))) (by exact (ev_lk_st1 ev_lk_st1_self (by decide) rfl)) (by exact ev_lk_st1_self)
                · intro c130
                  refine ev_r_aload_n (pc := 166) (k := 0) (v := .ref 621) trivial (by decide +kernel) (by exact (ev_l1 (ev_l1 (ev_l1 e3 (by decide) (by decide)) (by decide) (by decide)) (by decide) (by decide))) ?_
                  refine ev_r_iload_n (pc := 167) (k := 3) (v := Int32.ofInt x12) (by decide +kernel) (by exact (ev_lk_st1 ev_lk_st1_self (by decide) rfl)) ?_
                  refine ev_r_virt (pc := 168) (y := 436) (mi := 246) (na := 1) (k := 621) (as := [.int (Int32.ofInt x12)]) (rest := []) (encc := ev_oU) (Q := ev_PU) (fun x S1 h => jt_246 d (by omega) Q x12 hx12 s128 x S1 h) (by exact ev_ob_621) (by decide +kernel) (by decide +kernel) (by decide +kernel) (by decide +kernel) rfl (by (try simp only [ev_sum, ev_nv_cat]); first | done | rfl) ?_
                  intro _ s131 _
                  show ev_w _ _ _ _ _ [] _ _ _ _
                  refine ev_r_aload_n (pc := 171) (k := 0) (v := .ref 621) trivial (by decide +kernel) (by exact (ev_l1 (ev_l1 (ev_l1 e3 (by decide) (by decide)) (by decide) (by decide)) (by decide) (by decide))) ?_
                  refine ev_r_iconst (pc := 172) (k := 2) (by decide +kernel) ?_
                  refine ev_r_virt (pc := 173) (y := 415) (mi := 234) (na := 1) (k := 621) (as := [.int (Int32.ofInt 2)]) (rest := []) (encc := ev_oU) (Q := ev_PU) (fun x S1 h => jt_234 d (by omega) Q 2 (by decide) s131 x S1 h) (by exact ev_ob_621) (by decide +kernel) (by decide +kernel) (by decide +kernel) (by decide +kernel) rfl (by (try simp only [ev_sum, ev_nv_cat]); first | done | rfl) ?_
                  intro _ s132 _
                  show ev_w _ _ _ _ _ [] _ _ _ _
                  refine ev_r_aload_n (pc := 176) (k := 0) (v := .ref 621) trivial (by decide +kernel) (by exact (ev_l1 (ev_l1 (ev_l1 e3 (by decide) (by decide)) (by decide) (by decide)) (by decide) (by decide))) ?_
                  refine ev_r_iload_n (pc := 177) (k := 1) (v := Int32.ofInt x1) (by decide +kernel) (by exact (ev_l1 (ev_l1 (ev_lk_st1 e4 (by decide) rfl) (by decide) (by decide)) (by decide) (by decide))) ?_
                  refine ev_r_virt (pc := 178) (y := 430) (mi := 249) (na := 1) (k := 621) (as := [.int (Int32.ofInt x1)]) (rest := []) (encc := ev_oU) (Q := ev_PU) (fun x S1 h => jt_249 d (by omega) Q x1 hx1 s132 x S1 h) (by exact ev_ob_621) (by decide +kernel) (by decide +kernel) (by decide +kernel) (by decide +kernel) rfl (by (try simp only [ev_sum, ev_nv_cat]); first | done | rfl) ?_
                  intro _ s133 _
                  show ev_w _ _ _ _ _ [] _ _ _ _
                  refine ev_r_goto (pc := 181) (o := 188) (t := 369) (by decide +kernel) (by decide +kernel) ?_
                  exact hK369 x1 hx1 s133 _ (by exact (ev_l1 (ev_l1 (ev_l1 e3 (by decide) (by decide)) (by decide) (by decide)) (by decide) (by decide))) (by exact (ev_l1 (ev_l1 (ev_lk_st1 e4 (by decide) rfl) (by decide) (by decide)) (by decide) (by decide)))
          · intro c21
            refine ev_r_iinc (pc := 142) (k := 1) (c := 1) (x := x1) (by decide +kernel) (by decide +kernel) (by exact (ev_l1 (ev_l1 (ev_lk_st1 e4 (by decide) rfl) (by decide) (by decide)) (by decide) (by decide))) (fun _ => rfl) ?_
            intro x134 hx134
            refine ev_r_aload_n (pc := 145) (k := 0) (v := .ref 621) trivial (by decide +kernel) (by exact (ev_lk_st1 (ev_l1 (ev_l1 (ev_l1 e3 (by decide) (by decide)) (by decide) (by decide)) (by decide) (by decide)) (by decide) rfl)) ?_
            refine ev_r_iload_n (pc := 146) (k := 1) (v := Int32.ofInt x134) (by decide +kernel) (by exact ev_lk_st1_self) ?_
            refine ev_r_virt (pc := 147) (y := 419) (mi := 252) (na := 1) (k := 621) (as := [.int (Int32.ofInt x134)]) (rest := []) (encc := ev_oU) (Q := ev_PU) (fun x S1 h => jt_252 d (by omega) Q x134 hx134 s13 x S1 h) (by exact ev_ob_621) (by decide +kernel) (by decide +kernel) (by decide +kernel) (by decide +kernel) rfl (by (try simp only [ev_sum, ev_nv_cat]); first | done | rfl) ?_
            intro _ s135 _
            show ev_w _ _ _ _ _ [] _ _ _ _
            refine ev_r_goto (pc := 150) (o := 219) (t := 369) (by decide +kernel) (by decide +kernel) ?_
            exact hK369 x134 hx134 s135 _ (by exact (ev_lk_st1 (ev_l1 (ev_l1 (ev_l1 e3 (by decide) (by decide)) (by decide) (by decide)) (by decide) (by decide)) (by decide) rfl)) (by exact ev_lk_st1_self)
        · intro c20
          refine ev_r_aload_n (pc := 43) (k := 0) (v := .ref 621) trivial (by decide +kernel) (by exact (ev_l1 (ev_l1 (ev_l1 e3 (by decide) (by decide)) (by decide) (by decide)) (by decide) (by decide))) ?_
          refine ev_r_iload_n (pc := 44) (k := 1) (v := Int32.ofInt x1) (by decide +kernel) (by exact (ev_l1 (ev_l1 (ev_lk_st1 e4 (by decide) rfl) (by decide) (by decide)) (by decide) (by decide))) ?_
          refine ev_r_virt (pc := 45) (y := 425) (mi := 248) (na := 1) (k := 621) (as := [.int (Int32.ofInt x1)]) (rest := []) (encc := ev_oU) (Q := ev_PU) (fun x S1 h => jt_248 d (by omega) Q x1 hx1 s13 x S1 h) (by exact ev_ob_621) (by decide +kernel) (by decide +kernel) (by decide +kernel) (by decide +kernel) rfl (by (try simp only [ev_sum, ev_nv_cat]); first | done | rfl) ?_
          intro _ s136 _
          show ev_w _ _ _ _ _ [] _ _ _ _
          refine ev_r_aload_n (pc := 48) (k := 0) (v := .ref 621) trivial (by decide +kernel) (by exact (ev_l1 (ev_l1 (ev_l1 e3 (by decide) (by decide)) (by decide) (by decide)) (by decide) (by decide))) ?_
          refine ev_r_aload_n (pc := 49) (k := 0) (v := .ref 621) trivial (by decide +kernel) (by exact (ev_l1 (ev_l1 (ev_l1 e3 (by decide) (by decide)) (by decide) (by decide)) (by decide) (by decide))) ?_
          refine ev_r_getC (pc := 50) (y := 111) (ci := 13) (f := 47) (fin := 1) (k' := 655) (by decide +kernel) (by decide +kernel) (by exact ev_ob_621) rfl rfl ?_
          refine ev_r_iload_n (pc := 53) (k := 1) (v := Int32.ofInt x1) (by decide +kernel) (by exact (ev_l1 (ev_l1 (ev_lk_st1 e4 (by decide) rfl) (by decide) (by decide)) (by decide) (by decide))) ?_
          refine ev_r_bald (pc := 54) (ty := .boolean) (Or.inr rfl) hx1 (by decide +kernel) (by exact ev_ab_655) ?_
          intro x137 hx137
          refine ev_r_jn (Q := fun K => ∀ (y138 : Int64), ∀ (s142 : ev_St) (w139 : List (Nat × Value)), ev_lk w139 0 = some (.ref 621) → ev_lk w139 1 = some (.int (Int32.ofInt x1)) → ev_w none (ev_Mof 253) d 77 w139 [.long y138, .ref 621] s142 (K y138 s142) ev_eU ev_PU) ?_ ?_
          · intro y138 s142 w139 e140 e141
            refine ev_r_putL (pc := 77) (y := 394) (ci := 13) (f := 41) (by decide +kernel) (by decide +kernel) (by exact ev_ob_621) rfl rfl ?_
            intro s143
            refine ev_r_aload_n (pc := 80) (k := 0) (v := .ref 621) trivial (by decide +kernel) (by exact e140) ?_
            refine ev_r_aload_n (pc := 81) (k := 0) (v := .ref 621) trivial (by decide +kernel) (by exact e140) ?_
            refine ev_r_getC (pc := 82) (y := 111) (ci := 13) (f := 47) (fin := 1) (k' := 655) (by decide +kernel) (by decide +kernel) (by exact ev_ob_621) rfl rfl ?_
            refine ev_r_iload_n (pc := 85) (k := 1) (v := Int32.ofInt x1) (by decide +kernel) (by exact e141) ?_
            refine ev_r_bald (pc := 86) (ty := .boolean) (Or.inr rfl) hx1 (by decide +kernel) (by exact ev_ab_655) ?_
            intro x144 hx144
            refine ev_r_jn (Q := fun K => ∀ (y145 : Int64), ∀ (s149 : ev_St) (w146 : List (Nat × Value)), ev_lk w146 0 = some (.ref 621) → ev_lk w146 1 = some (.int (Int32.ofInt x1)) → ev_w none (ev_Mof 253) d 113 w146 [.long y145, .ref 621] s149 (K y145 s149) ev_eU ev_PU) ?_ ?_
            · intro y145 s149 w146 e147 e148
              refine ev_r_putL (pc := 113) (y := 398) (ci := 13) (f := 42) (by decide +kernel) (by decide +kernel) (by exact ev_ob_621) rfl rfl ?_
              intro s150
              refine ev_r_aload_n (pc := 116) (k := 0) (v := .ref 621) trivial (by decide +kernel) (by exact e147) ?_
              refine ev_r_iconst (pc := 117) (k := 1) (by decide +kernel) ?_
              refine ev_r_virt (pc := 118) (y := 415) (mi := 234) (na := 1) (k := 621) (as := [.int (Int32.ofInt 1)]) (rest := []) (encc := ev_oU) (Q := ev_PU) (fun x S1 h => jt_234 d (by omega) Q 1 (by decide) s150 x S1 h) (by exact ev_ob_621) (by decide +kernel) (by decide +kernel) (by decide +kernel) (by decide +kernel) rfl (by (try simp only [ev_sum, ev_nv_cat]); first | done | rfl) ?_
              intro _ s151 _
              show ev_w _ _ _ _ _ [] _ _ _ _
              refine ev_r_iinc (pc := 121) (k := 1) (c := -1) (x := x1) (by decide +kernel) (by decide +kernel) (by exact e148) (fun _ => rfl) ?_
              intro x152 hx152
              refine ev_r_iload_n (pc := 124) (k := 1) (v := Int32.ofInt x152) (by decide +kernel) (by exact ev_lk_st1_self) ?_
              refine ev_r_if (pc := 125) (q := .lt) (o := 244) (t := 369) (c := x152 < 0) (by decide +kernel) (ev_k_lt hx152 ev_rng0) (by decide +kernel) ?_ ?_
              · intro c153
                exact hK369 x152 hx152 s151 _ (by exact (ev_lk_st1 e147 (by decide) rfl)) (by exact ev_lk_st1_self)
              · intro c153
                refine ev_r_aload_n (pc := 128) (k := 0) (v := .ref 621) trivial (by decide +kernel) (by exact (ev_lk_st1 e147 (by decide) rfl)) ?_
                refine ev_r_iload_n (pc := 129) (k := 1) (v := Int32.ofInt x152) (by decide +kernel) (by exact ev_lk_st1_self) ?_
                refine ev_r_virt (pc := 130) (y := 430) (mi := 249) (na := 1) (k := 621) (as := [.int (Int32.ofInt x152)]) (rest := []) (encc := ev_oU) (Q := ev_PU) (fun x S1 h => jt_249 d (by omega) Q x152 hx152 s151 x S1 h) (by exact ev_ob_621) (by decide +kernel) (by decide +kernel) (by decide +kernel) (by decide +kernel) rfl (by (try simp only [ev_sum, ev_nv_cat]); first | done | rfl) ?_
                intro _ s154 _
                show ev_w _ _ _ _ _ [] _ _ _ _
                refine ev_r_goto (pc := 133) (o := 236) (t := 369) (by decide +kernel) (by decide +kernel) ?_
                exact hK369 x152 hx152 s154 _ (by exact (ev_lk_st1 e147 (by decide) rfl)) (by exact ev_lk_st1_self)
            · intro K113 hK113
              refine ev_r_if (pc := 87) (q := .eq) (o := 20) (t := 107) (c := x144 = 0) (by decide +kernel) (ev_k_eq hx144 ev_rng0) (by decide +kernel) ?_ ?_
              · intro c155
                refine ev_r_aload_n (pc := 107) (k := 0) (v := .ref 621) trivial (by decide +kernel) (by exact e140) ?_
                refine ev_r_getC (pc := 108) (y := 102) (ci := 13) (f := 44) (fin := 1) (k' := 652) (by decide +kernel) (by decide +kernel) (by exact ev_ob_621) rfl rfl ?_
                refine ev_r_iload_n (pc := 111) (k := 1) (v := Int32.ofInt x1) (by decide +kernel) (by exact e141) ?_
                refine ev_r_lald (pc := 112) hx1 (by decide +kernel) (by exact ev_ab_652) ?_
                intro y156
                exact hK113 y156 s143 _ (by exact e140) (by exact e141)
              · intro c155
                refine ev_r_aload_n (pc := 90) (k := 0) (v := .ref 621) trivial (by decide +kernel) (by exact e140) ?_
                refine ev_r_getC (pc := 91) (y := 102) (ci := 13) (f := 44) (fin := 1) (k' := 652) (by decide +kernel) (by decide +kernel) (by exact ev_ob_621) rfl rfl ?_
                refine ev_r_iload_n (pc := 94) (k := 1) (v := Int32.ofInt x1) (by decide +kernel) (by exact e141) ?_
                refine ev_r_lald (pc := 95) hx1 (by decide +kernel) (by exact ev_ab_652) ?_
                intro y157
                refine ev_r_ldc2 (pc := 96) (y := 407) (k := -1) (by decide +kernel) (by decide +kernel) ?_
                refine ev_r_toL (pc := 99) (i := .lxor) (len := 1) (pc' := 100) (by decide +kernel) rfl ?_
                intro y158
                refine ev_r_ldc2 (pc := 100) (y := 428) (k := 4294967295) (by decide +kernel) (by decide +kernel) ?_
                refine ev_r_toL (pc := 103) (i := .land) (len := 1) (pc' := 104) (by decide +kernel) rfl ?_
                intro y159
                refine ev_r_goto (pc := 104) (o := 9) (t := 113) (by decide +kernel) (by decide +kernel) ?_
                exact hK113 y159 s143 _ (by exact e140) (by exact e141)
          · intro K77 hK77
            refine ev_r_if (pc := 55) (q := .eq) (o := 16) (t := 71) (c := x137 = 0) (by decide +kernel) (ev_k_eq hx137 ev_rng0) (by decide +kernel) ?_ ?_
            · intro c160
              refine ev_r_aload_n (pc := 71) (k := 0) (v := .ref 621) trivial (by decide +kernel) (by exact (ev_l1 (ev_l1 (ev_l1 e3 (by decide) (by decide)) (by decide) (by decide)) (by decide) (by decide))) ?_
              refine ev_r_getC (pc := 72) (y := 99) (ci := 13) (f := 43) (fin := 1) (k' := 651) (by decide +kernel) (by decide +kernel) (by exact ev_ob_621) rfl rfl ?_
              refine ev_r_iload_n (pc := 75) (k := 1) (v := Int32.ofInt x1) (by decide +kernel) (by exact (ev_l1 (ev_l1 (ev_lk_st1 e4 (by decide) rfl) (by decide) (by decide)) (by decide) (by decide))) ?_
              refine ev_r_lald (pc := 76) hx1 (by decide +kernel) (by exact ev_ab_651) ?_
              intro y161
              exact hK77 y161 s136 _ (by exact (ev_l1 (ev_l1 (ev_l1 e3 (by decide) (by decide)) (by decide) (by decide)) (by decide) (by decide))) (by exact (ev_l1 (ev_l1 (ev_lk_st1 e4 (by decide) rfl) (by decide) (by decide)) (by decide) (by decide)))
            · intro c160
              refine ev_r_aload_n (pc := 58) (k := 0) (v := .ref 621) trivial (by decide +kernel) (by exact (ev_l1 (ev_l1 (ev_l1 e3 (by decide) (by decide)) (by decide) (by decide)) (by decide) (by decide))) ?_
              refine ev_r_getC (pc := 59) (y := 99) (ci := 13) (f := 43) (fin := 1) (k' := 651) (by decide +kernel) (by decide +kernel) (by exact ev_ob_621) rfl rfl ?_
              refine ev_r_iload_n (pc := 62) (k := 1) (v := Int32.ofInt x1) (by decide +kernel) (by exact (ev_l1 (ev_l1 (ev_lk_st1 e4 (by decide) rfl) (by decide) (by decide)) (by decide) (by decide))) ?_
              refine ev_r_lald (pc := 63) hx1 (by decide +kernel) (by exact ev_ab_651) ?_
              intro y162
              refine ev_r_ldc2 (pc := 64) (y := 407) (k := -1) (by decide +kernel) (by decide +kernel) ?_
              refine ev_r_toL (pc := 67) (i := .lxor) (len := 1) (pc' := 68) (by decide +kernel) rfl ?_
              intro y163
              refine ev_r_goto (pc := 68) (o := 9) (t := 77) (by decide +kernel) (by decide +kernel) ?_
              exact hK77 y163 s136 _ (by exact (ev_l1 (ev_l1 (ev_l1 e3 (by decide) (by decide)) (by decide) (by decide)) (by decide) (by decide))) (by exact (ev_l1 (ev_l1 (ev_lk_st1 e4 (by decide) rfl) (by decide) (by decide)) (by decide) (by decide)))
theorem jlt_253_7 (d : Nat) (hd : 6 ≤ d + 1) (Q : Nat)     : ∀ q : Nat, ∀ (x1 : Int) (hx1 : ev_rng x1), ∀ (s5 : ev_St) (w2 : List (Nat × Value)), ev_lk w2 0 = some (.ref 621) → ev_lk w2 1 = some (.int (Int32.ofInt x1)) → ev_w none (ev_Mof 253) d 7 w2 [] s5 (jl_253_7 Q   q x1 s5) ev_eU ev_PU := by
  intro q
  induction q with
  | zero =>
    intro x1 hx1 s5 w2 e3 e4
    exact ev_w_none
  | succ q ih => exact jbt_253_7 d hd Q     _ ih
/-- MendBenchModel.klass()V -/
def jm_253 (Q : Nat)  (S : ev_St) : Option ((Unit) × ev_St) := ev_bd (jm_252 Q 0 S) fun _ s164 => jl_253_7 Q   Q 0 s164
theorem jt_253 (d : Nat) (hd : 6 ≤ d) (Q : Nat)   (S : ev_St) (x : Unit) (S' : ev_St) (hJ : jm_253 Q  S = some (x, S')) : ev_Ref d 253 [.ref 621] S (ev_eU x) S' (ev_PU x) := by
  obtain ⟨d, rfl⟩ : ∃ e, d = e + 1 := ⟨d - 1, by omega⟩
  refine ev_ref_of (P := ev_PU) (lv := [(0, .ref 621)]) (by decide +kernel) (by (try simp only [ev_sum, ev_nv_cat]); first | done | rfl) (by (try simp only [lv_args, ev_nv_cat]); first | done | rfl) ?_ x S' hJ
  unfold jm_253
  refine ev_r_iconst (pc := 0) (k := 0) (by decide +kernel) ?_
  refine ev_r_istore_n (pc := 1) (k := 1) (by decide +kernel) (by decide +kernel) rfl ?_
  refine ev_r_aload_n (pc := 2) (k := 0) (v := .ref 621) trivial (by decide +kernel) (by exact (ev_lk_st1 (by rfl) (by decide) rfl)) ?_
  refine ev_r_iconst (pc := 3) (k := 0) (by decide +kernel) ?_
  refine ev_r_virt (pc := 4) (y := 419) (mi := 252) (na := 1) (k := 621) (as := [.int (Int32.ofInt 0)]) (rest := []) (encc := ev_oU) (Q := ev_PU) (fun x S1 h => jt_252 d (by omega) Q 0 (by decide) S x S1 h) (by exact ev_ob_621) (by decide +kernel) (by decide +kernel) (by decide +kernel) (by decide +kernel) rfl (by (try simp only [ev_sum, ev_nv_cat]); first | done | rfl) ?_
  intro _ s164 _
  show ev_w _ _ _ _ _ [] _ _ _ _
  exact jlt_253_7 d hd Q     Q 0 (by decide) s164 _ (by exact (ev_lk_st1 (by rfl) (by decide) rfl)) (by exact ev_lk_st1_self)
def jb_254_4 (Q : Nat)   (K4 : Int → Int → ev_St → Option ((Int) × ev_St)) (x1 : Int) (x2 : Int) (s7 : ev_St) : Option ((Int) × ev_St) := ev_jn (fun  (s10 : ev_St) => if x1 ≤ 20 then (some (x1, s10)) else (some ((-1), s10))) fun K54 => if 2 ≤ x2 then (K54  s7) else (ev_bd (jm_233 Q 0 s7) fun x14 s13 => ev_bd (jm_226 Q x14 s13) fun x16 s15 => if x16 = 0 then (K54  s15) else (ev_jn (fun (x18 : Int) (s22 : ev_St) => ev_bd (jm_233 Q 0 s22) fun x24 s23 => ev_ck (x18 + x24) fun x25 => ev_ck (x25 - 48) fun x26 => ev_bd (jm_234 Q 1 s23) fun _ s27 => ev_ck (x2 + 1) fun x28 => K4 x26 x28 s27) fun K33 => if x1 ≠ (-1) then (ev_ck (10 * x1) fun x30 => K33 x30 s15) else (K33 0 s15)))
def jl_254_4 (Q : Nat)   : Nat → Int → Int → ev_St → Option ((Int) × ev_St)
  | 0 => fun _ _ _ => none
  | q + 1 => jb_254_4 Q   (jl_254_4 Q   q)
theorem jbt_254_4 (d : Nat) (hd : 3 ≤ d + 1) (Q : Nat)     (K4 : Int → Int → ev_St → Option ((Int) × ev_St)) (hK4 : ∀ (x1 : Int) (hx1 : ev_rng x1), ∀ (x2 : Int) (hx2 : ev_rng x2), ∀ (s7 : ev_St) (w3 : List (Nat × Value)), ev_lk w3 0 = some (.ref 621) → ev_lk w3 1 = some (.int (Int32.ofInt x1)) → ev_lk w3 2 = some (.int (Int32.ofInt x2)) → ev_w none (ev_Mof 254) d 4 w3 [] s7 (K4 x1 x2 s7) ev_eI ev_rng) : ∀ (x1 : Int) (hx1 : ev_rng x1), ∀ (x2 : Int) (hx2 : ev_rng x2), ∀ (s7 : ev_St) (w3 : List (Nat × Value)), ev_lk w3 0 = some (.ref 621) → ev_lk w3 1 = some (.int (Int32.ofInt x1)) → ev_lk w3 2 = some (.int (Int32.ofInt x2)) → ev_w none (ev_Mof 254) d 4 w3 [] s7 (jb_254_4 Q   K4 x1 x2 s7) ev_eI ev_rng := by
  intro x1 hx1 x2 hx2 s7 w3 e4 e5 e6
  unfold jb_254_4
  refine ev_r_iload_n (pc := 4) (k := 2) (v := Int32.ofInt x2) (by decide +kernel) (by exact e6) ?_
  refine ev_r_iconst (pc := 5) (k := 2) (by decide +kernel) ?_
  refine ev_r_jn (Q := fun K => ∀ (s10 : ev_St) (w8 : List (Nat × Value)), ev_lk w8 1 = some (.int (Int32.ofInt x1)) → ev_w none (ev_Mof 254) d 54 w8 [] s10 (K  s10) ev_eI ev_rng) ?_ ?_
  · intro  s10 w8 e9
    refine ev_r_iload_n (pc := 54) (k := 1) (v := Int32.ofInt x1) (by decide +kernel) (by exact e9) ?_
    refine ev_r_bipush (pc := 55) (k := 20) (by decide +kernel) (by decide +kernel) ?_
    refine ev_r_icmp (pc := 57) (q := .le) (o := 7) (t := 64) (c := x1 ≤ 20) (by decide +kernel) (ev_k_le hx1 (by decide)) (by decide +kernel) ?_ ?_
    · intro c11
      refine ev_r_iload_n (pc := 64) (k := 1) (v := Int32.ofInt x1) (by decide +kernel) (by exact e9) ?_
      exact ev_r_ireturn (pc := 65) (x := x1) (v := Int32.ofInt x1) (ty := .int) hx1 (by decide +kernel) (by decide +kernel) rfl rfl
    · intro c11
      refine ev_r_iconst (pc := 60) (k := -1) (by decide +kernel) ?_
      refine ev_r_goto (pc := 61) (o := 4) (t := 65) (by decide +kernel) (by decide +kernel) ?_
      exact ev_r_ireturn (pc := 65) (x := (-1)) (v := Int32.ofInt ((-1))) (ty := .int) (by decide) (by decide +kernel) (by decide +kernel) rfl rfl
  · intro K54 hK54
    refine ev_r_icmp (pc := 6) (q := .ge) (o := 48) (t := 54) (c := 2 ≤ x2) (by decide +kernel) (ev_k_ge hx2 (by decide)) (by decide +kernel) ?_ ?_
    · intro c12
      exact hK54  s7 _ (by exact e5)
    · intro c12
      refine ev_r_aload_n (pc := 9) (k := 0) (v := .ref 621) trivial (by decide +kernel) (by exact e4) ?_
      refine ev_r_iconst (pc := 10) (k := 0) (by decide +kernel) ?_
      refine ev_r_virt (pc := 11) (y := 409) (mi := 233) (na := 1) (k := 621) (as := [.int (Int32.ofInt 0)]) (rest := []) (encc := ev_oI) (Q := ev_rng) (fun x S1 h => jt_233 d (by omega) Q 0 (by decide) s7 x S1 h) (by exact ev_ob_621) (by decide +kernel) (by decide +kernel) (by decide +kernel) (by decide +kernel) rfl (by (try simp only [ev_sum, ev_nv_cat]); first | done | rfl) ?_
      intro x14 s13 hx14
      show ev_w _ _ _ _ _ [.int (Int32.ofInt x14)] _ _ _ _
      refine ev_r_stat (pc := 14) (y := 336) (kind := 2) (mi := 226) (na := 1) (as := [.int (Int32.ofInt x14)]) (rest := []) (encc := ev_oI) (Q := ev_bl) (fun x S1 h => jt_226 d (by omega) Q x14 hx14 s13 x S1 h) (Or.inl rfl) (by decide +kernel) (by decide +kernel) (by decide +kernel) (by decide +kernel) rfl (by (try simp only [ev_sum, ev_nv_cat]); first | done | rfl) ?_
      intro x16 s15 hx16
      replace hx16 := ev_bl_rng hx16
      show ev_w _ _ _ _ _ [.int (Int32.ofInt x16)] _ _ _ _
      refine ev_r_if (pc := 17) (q := .eq) (o := 37) (t := 54) (c := x16 = 0) (by decide +kernel) (ev_k_eq hx16 ev_rng0) (by decide +kernel) ?_ ?_
      · intro c17
        exact hK54  s15 _ (by exact e5)
      · intro c17
        refine ev_r_iload_n (pc := 20) (k := 1) (v := Int32.ofInt x1) (by decide +kernel) (by exact e5) ?_
        refine ev_r_iconst (pc := 21) (k := -1) (by decide +kernel) ?_
        refine ev_r_jn (Q := fun K => ∀ (x18 : Int) (hx18 : ev_rng x18), ∀ (s22 : ev_St) (w19 : List (Nat × Value)), ev_lk w19 0 = some (.ref 621) → ev_lk w19 2 = some (.int (Int32.ofInt x2)) → ev_w none (ev_Mof 254) d 33 w19 [.int (Int32.ofInt x18)] s22 (K x18 s22) ev_eI ev_rng) ?_ ?_
        · intro x18 hx18 s22 w19 e20 e21
          refine ev_r_aload_n (pc := 33) (k := 0) (v := .ref 621) trivial (by decide +kernel) (by exact e20) ?_
          refine ev_r_iconst (pc := 34) (k := 0) (by decide +kernel) ?_
          refine ev_r_virt (pc := 35) (y := 409) (mi := 233) (na := 1) (k := 621) (as := [.int (Int32.ofInt 0)]) (rest := [.int (Int32.ofInt x18)]) (encc := ev_oI) (Q := ev_rng) (fun x S1 h => jt_233 d (by omega) Q 0 (by decide) s22 x S1 h) (by exact ev_ob_621) (by decide +kernel) (by decide +kernel) (by decide +kernel) (by decide +kernel) rfl (by (try simp only [ev_sum, ev_nv_cat]); first | done | rfl) ?_
          intro x24 s23 hx24
          show ev_w _ _ _ _ _ [.int (Int32.ofInt x24), .int (Int32.ofInt x18)] _ _ _ _
          refine ev_r_iadd (pc := 38) (by decide +kernel) ?_
          intro x25 hx25
          refine ev_r_bipush (pc := 39) (k := 48) (by decide +kernel) (by decide +kernel) ?_
          refine ev_r_isub (pc := 41) (by decide +kernel) ?_
          intro x26 hx26
          refine ev_r_istore_n (pc := 42) (k := 1) (by decide +kernel) (by decide +kernel) rfl ?_
          refine ev_r_aload_n (pc := 43) (k := 0) (v := .ref 621) trivial (by decide +kernel) (by exact (ev_lk_st1 e20 (by decide) rfl)) ?_
          refine ev_r_iconst (pc := 44) (k := 1) (by decide +kernel) ?_
          refine ev_r_virt (pc := 45) (y := 415) (mi := 234) (na := 1) (k := 621) (as := [.int (Int32.ofInt 1)]) (rest := []) (encc := ev_oU) (Q := ev_PU) (fun x S1 h => jt_234 d (by omega) Q 1 (by decide) s23 x S1 h) (by exact ev_ob_621) (by decide +kernel) (by decide +kernel) (by decide +kernel) (by decide +kernel) rfl (by (try simp only [ev_sum, ev_nv_cat]); first | done | rfl) ?_
          intro _ s27 _
          show ev_w _ _ _ _ _ [] _ _ _ _
          refine ev_r_iinc (pc := 48) (k := 2) (c := 1) (x := x2) (by decide +kernel) (by decide +kernel) (by exact (ev_l1 e21 (by decide) (by decide))) (fun _ => rfl) ?_
          intro x28 hx28
          refine ev_r_goto (pc := 51) (o := (-47)) (t := 4) (by decide +kernel) (by decide +kernel) ?_
          exact hK4 x26 hx26 x28 hx28 s27 _ (by exact (ev_l1 (ev_lk_st1 e20 (by decide) rfl) (by decide) (by decide))) (by exact (ev_lk_st1 ev_lk_st1_self (by decide) rfl)) (by exact ev_lk_st1_self)
        · intro K33 hK33
          refine ev_r_icmp (pc := 22) (q := .ne) (o := 7) (t := 29) (c := x1 ≠ (-1)) (by decide +kernel) (ev_k_ne hx1 (by decide)) (by decide +kernel) ?_ ?_
          · intro c29
            refine ev_r_bipush (pc := 29) (k := 10) (by decide +kernel) (by decide +kernel) ?_
            refine ev_r_iload_n (pc := 31) (k := 1) (v := Int32.ofInt x1) (by decide +kernel) (by exact e5) ?_
            refine ev_r_imul (pc := 32) (by decide +kernel) ?_
            intro x30 hx30
            exact hK33 x30 hx30 s15 _ (by exact e4) (by exact e6)
          · intro c29
            refine ev_r_iconst (pc := 25) (k := 0) (by decide +kernel) ?_
            refine ev_r_goto (pc := 26) (o := 7) (t := 33) (by decide +kernel) (by decide +kernel) ?_
            exact hK33 0 (by decide) s15 _ (by exact e4) (by exact e6)
theorem jlt_254_4 (d : Nat) (hd : 3 ≤ d + 1) (Q : Nat)     : ∀ q : Nat, ∀ (x1 : Int) (hx1 : ev_rng x1), ∀ (x2 : Int) (hx2 : ev_rng x2), ∀ (s7 : ev_St) (w3 : List (Nat × Value)), ev_lk w3 0 = some (.ref 621) → ev_lk w3 1 = some (.int (Int32.ofInt x1)) → ev_lk w3 2 = some (.int (Int32.ofInt x2)) → ev_w none (ev_Mof 254) d 4 w3 [] s7 (jl_254_4 Q   q x1 x2 s7) ev_eI ev_rng := by
  intro q
  induction q with
  | zero =>
    intro x1 hx1 x2 hx2 s7 w3 e4 e5 e6
    exact ev_w_none
  | succ q ih => exact jbt_254_4 d hd Q     _ ih
/-- MendBenchModel.number()I -/
def jm_254 (Q : Nat)  (S : ev_St) : Option ((Int) × ev_St) := jl_254_4 Q   Q ((-1)) 0 S
theorem jt_254 (d : Nat) (hd : 3 ≤ d) (Q : Nat)   (S : ev_St) (x : Int) (S' : ev_St) (hJ : jm_254 Q  S = some (x, S')) : ev_Ref d 254 [.ref 621] S (ev_eI x) S' (ev_rng x) := by
  obtain ⟨d, rfl⟩ : ∃ e, d = e + 1 := ⟨d - 1, by omega⟩
  refine ev_ref_of (P := ev_rng) (lv := [(0, .ref 621)]) (by decide +kernel) (by (try simp only [ev_sum, ev_nv_cat]); first | done | rfl) (by (try simp only [lv_args, ev_nv_cat]); first | done | rfl) ?_ x S' hJ
  unfold jm_254
  refine ev_r_iconst (pc := 0) (k := -1) (by decide +kernel) ?_
  refine ev_r_istore_n (pc := 1) (k := 1) (by decide +kernel) (by decide +kernel) rfl ?_
  refine ev_r_iconst (pc := 2) (k := 0) (by decide +kernel) ?_
  refine ev_r_istore_n (pc := 3) (k := 2) (by decide +kernel) (by decide +kernel) rfl ?_
  exact jlt_254_4 d hd Q     Q ((-1)) (by decide) 0 (by decide) S _ (by exact (ev_l1 (ev_lk_st1 (by rfl) (by decide) rfl) (by decide) (by decide))) (by exact (ev_lk_st1 ev_lk_st1_self (by decide) rfl)) (by exact ev_lk_st1_self)
/-- MendBenchModel.repeats()V -/
def jm_255 (Q : Nat)  (S : ev_St) : Option ((Unit) × ev_St) := ev_bd (jm_233 Q 0 S) fun x2 s1 => ev_bd (jm_234 Q 1 s1) fun _ s3 => ev_jn (fun (x4 : Int) (x5 : Int) (s9 : ev_St) => ev_jn (fun (x10 : Int) (x11 : Int) (s16 : ev_St) => ev_jn (fun (x17 : Int) (x18 : Int) (s23 : ev_St) => ev_b (s23.1 621 39) fun x24 => if x24 ≠ (-1) then (ev_bd (jm_236 Q  s23) fun _ s26 => ev_bd (jm_232 Q  s26) fun x28 s27 => ev_b (s27.1 621 39) fun x29 => ev_ck (x28 + x29) fun x30 => ev_bd (jm_233 Q 0 s27) fun x32 s31 => ev_jn (fun (x33 : Int) (x34 : Int) (x37 : Int) (x36 : Int) (r35 : Nat) (s44 : ev_St) => ev_if ((0 : Int) ≤ x36 ∧ x36 < (ev_aln r35 : Int)) (ev_b (ev_pI s44 r35 (Int.toNat x36) x37) fun s45 => ev_if ((0 : Int) ≤ x33 ∧ x33 < (ev_aln 631 : Int)) (ev_b (ev_pI s45 631 (Int.toNat x33) x17) fun s46 => ev_if ((0 : Int) ≤ x33 ∧ x33 < (ev_aln 632 : Int)) (ev_b (ev_pI s46 632 (Int.toNat x33) x18) fun s47 => ev_jn (fun (x48 : Int) (s51 : ev_St) => ev_bd (jm_234 Q x48 s51) fun _ s52 => ev_b (ev_pI s52 621 39 ((-1))) fun s53 => some ((), s53)) fun K260 => ev_jn (fun  (s56 : ev_St) => K260 1 s56) fun K255 => if x34 = 63 then (K255  s47) else (if x34 ≠ 43 then (K260 0 s47) else (K255  s47)))))) fun K223 => if x32 ≠ 63 then (if x32 ≠ 43 then (K223 x30 x32 0 x30 630 s31) else (K223 x30 x32 2 x30 630 s31)) else (K223 x30 x32 1 x30 630 s31)) else (ev_b (ev_pI s23 621 25 1) fun s61 => some ((), s61))) fun K158 => if x4 ≠ 123 then (K158 x10 x11 s16) else (ev_bd (jm_254 Q  s16) fun x64 s63 => ev_b (s63.1 621 25) fun x65 => ev_jn (fun (x66 : Int) (x67 : Int) (x68 : Int) (s73 : ev_St) => ev_if (ev_bl x68) (ev_b (ev_pI s73 621 25 x68) fun s74 => ev_bd (jm_233 Q 0 s74) fun x77 s76 => ev_jn (fun (x78 : Int) (s83 : ev_St) => ev_b (s83.1 621 25) fun x84 => ev_jn (fun (x85 : Int) (s90 : ev_St) => ev_if (ev_bl x85) (ev_b (ev_pI s90 621 25 x85) fun s91 => ev_bd (jm_234 Q 1 s91) fun _ s93 => K158 x66 x78 s93)) fun K150 => ev_jn (fun  (s98 : ev_St) => K150 1 s98) fun K145 => if x84 ≠ 0 then (K145  s83) else (ev_bd (jm_233 Q 0 s83) fun x101 s100 => if x101 = 125 then (K150 0 s100) else (K145  s100))) fun K127 => if x77 ≠ 44 then (K127 x67 s76) else (ev_bd (jm_234 Q 1 s76) fun _ s104 => ev_bd (jm_233 Q 0 s104) fun x106 s105 => if x106 = 125 then (K127 ((-1)) s105) else (ev_bd (jm_254 Q  s105) fun x109 s108 => ev_b (s108.1 621 25) fun x110 => ev_jn (fun (x111 : Int) (x112 : Int) (s117 : ev_St) => ev_if (ev_bl x112) (ev_b (ev_pI s117 621 25 x112) fun s118 => K127 x111 s118)) fun K124 => ev_jn (fun (x120 : Int) (s125 : ev_St) => K124 x120 1 s125) fun K119 => if x110 ≠ 0 then (K119 x109 s108) else (if x109 = (-1) then (K119 x109 s108) else (if x66 ≤ x109 then (K124 x109 0 s108) else (K119 x109 s108))))))) fun K66 => ev_jn (fun (x129 : Int) (x130 : Int) (s135 : ev_St) => K66 x129 x130 1 s135) fun K61 => if x65 ≠ 0 then (K61 x64 x64 s63) else (if x64 ≠ (-1) then (K66 x64 x64 0 s63) else (K61 x64 x64 s63)))) fun K34 => if x4 ≠ 63 then (K34 x5 ((-1)) s9) else (K34 x5 1 s9)) fun K22 => if x2 ≠ 43 then (K22 x2 0 s3) else (K22 x2 1 s3)
theorem jt_255 (d : Nat) (hd : 4 ≤ d) (Q : Nat)   (S : ev_St) (x : Unit) (S' : ev_St) (hJ : jm_255 Q  S = some (x, S')) : ev_Ref d 255 [.ref 621] S (ev_eU x) S' (ev_PU x) := by
  obtain ⟨d, rfl⟩ : ∃ e, d = e + 1 := ⟨d - 1, by omega⟩
  refine ev_ref_of (P := ev_PU) (lv := [(0, .ref 621)]) (by decide +kernel) (by (try simp only [ev_sum, ev_nv_cat]); first | done | rfl) (by (try simp only [lv_args, ev_nv_cat]); first | done | rfl) ?_ x S' hJ
  unfold jm_255
  refine ev_r_aload_n (pc := 0) (k := 0) (v := .ref 621) trivial (by decide +kernel) (by rfl) ?_
  refine ev_r_iconst (pc := 1) (k := 0) (by decide +kernel) ?_
  refine ev_r_virt (pc := 2) (y := 409) (mi := 233) (na := 1) (k := 621) (as := [.int (Int32.ofInt 0)]) (rest := []) (encc := ev_oI) (Q := ev_rng) (fun x S1 h => jt_233 d (by omega) Q 0 (by decide) S x S1 h) (by exact ev_ob_621) (by decide +kernel) (by decide +kernel) (by decide +kernel) (by decide +kernel) rfl (by (try simp only [ev_sum, ev_nv_cat]); first | done | rfl) ?_
  intro x2 s1 hx2
  show ev_w _ _ _ _ _ [.int (Int32.ofInt x2)] _ _ _ _
  refine ev_r_istore_n (pc := 5) (k := 1) (by decide +kernel) (by decide +kernel) rfl ?_
  refine ev_r_aload_n (pc := 6) (k := 0) (v := .ref 621) trivial (by decide +kernel) (by exact (ev_lk_st1 (by rfl) (by decide) rfl)) ?_
  refine ev_r_iconst (pc := 7) (k := 1) (by decide +kernel) ?_
  refine ev_r_virt (pc := 8) (y := 415) (mi := 234) (na := 1) (k := 621) (as := [.int (Int32.ofInt 1)]) (rest := []) (encc := ev_oU) (Q := ev_PU) (fun x S1 h => jt_234 d (by omega) Q 1 (by decide) s1 x S1 h) (by exact ev_ob_621) (by decide +kernel) (by decide +kernel) (by decide +kernel) (by decide +kernel) rfl (by (try simp only [ev_sum, ev_nv_cat]); first | done | rfl) ?_
  intro _ s3 _
  show ev_w _ _ _ _ _ [] _ _ _ _
  refine ev_r_iload_n (pc := 11) (k := 1) (v := Int32.ofInt x2) (by decide +kernel) (by exact ev_lk_st1_self) ?_
  refine ev_r_bipush (pc := 12) (k := 43) (by decide +kernel) (by decide +kernel) ?_
  refine ev_r_jn (Q := fun K => ∀ (x4 : Int) (hx4 : ev_rng x4), ∀ (x5 : Int) (hx5 : ev_rng x5), ∀ (s9 : ev_St) (w6 : List (Nat × Value)), ev_lk w6 0 = some (.ref 621) → ev_lk w6 1 = some (.int (Int32.ofInt x4)) → ev_w none (ev_Mof 255) d 22 w6 [.int (Int32.ofInt x5)] s9 (K x4 x5 s9) ev_eU ev_PU) ?_ ?_
  · intro x4 hx4 x5 hx5 s9 w6 e7 e8
    refine ev_r_istore_n (pc := 22) (k := 2) (by decide +kernel) (by decide +kernel) rfl ?_
    refine ev_r_iload_n (pc := 23) (k := 1) (v := Int32.ofInt x4) (by decide +kernel) (by exact (ev_lk_st1 e8 (by decide) rfl)) ?_
    refine ev_r_bipush (pc := 24) (k := 63) (by decide +kernel) (by decide +kernel) ?_
    refine ev_r_jn (Q := fun K => ∀ (x10 : Int) (hx10 : ev_rng x10), ∀ (x11 : Int) (hx11 : ev_rng x11), ∀ (s16 : ev_St) (w12 : List (Nat × Value)), ev_lk w12 0 = some (.ref 621) → ev_lk w12 1 = some (.int (Int32.ofInt x4)) → ev_lk w12 2 = some (.int (Int32.ofInt x10)) → ev_w none (ev_Mof 255) d 34 w12 [.int (Int32.ofInt x11)] s16 (K x10 x11 s16) ev_eU ev_PU) ?_ ?_
    · intro x10 hx10 x11 hx11 s16 w12 e13 e14 e15
      refine ev_r_istore_n (pc := 34) (k := 3) (by decide +kernel) (by decide +kernel) rfl ?_
      refine ev_r_iload_n (pc := 35) (k := 1) (v := Int32.ofInt x4) (by decide +kernel) (by exact (ev_l1 e14 (by decide) (by decide))) ?_
      refine ev_r_bipush (pc := 36) (k := 123) (by decide +kernel) (by decide +kernel) ?_
      refine ev_r_jn (Q := fun K => ∀ (x17 : Int) (hx17 : ev_rng x17), ∀ (x18 : Int) (hx18 : ev_rng x18), ∀ (s23 : ev_St) (w19 : List (Nat × Value)), ev_lk w19 0 = some (.ref 621) → ev_lk w19 2 = some (.int (Int32.ofInt x17)) → ev_lk w19 3 = some (.int (Int32.ofInt x18)) → ev_w none (ev_Mof 255) d 158 w19 [] s23 (K x17 x18 s23) ev_eU ev_PU) ?_ ?_
      · intro x17 hx17 x18 hx18 s23 w19 e20 e21 e22
        refine ev_r_aload_n (pc := 158) (k := 0) (v := .ref 621) trivial (by decide +kernel) (by exact e20) ?_
        refine ev_r_getI (pc := 159) (y := 375) (ci := 13) (f := 39) (fin := 0) (by decide +kernel) (by decide +kernel) (by exact ev_ob_621) rfl ?_
        intro x24 hx24
        refine ev_r_iconst (pc := 162) (k := -1) (by decide +kernel) ?_
        refine ev_r_icmp (pc := 163) (q := .ne) (o := 9) (t := 172) (c := x24 ≠ (-1)) (by decide +kernel) (ev_k_ne hx24 (by decide)) (by decide +kernel) ?_ ?_
        · intro c25
          refine ev_r_aload_n (pc := 172) (k := 0) (v := .ref 621) trivial (by decide +kernel) (by exact e20) ?_
          refine ev_r_virt (pc := 173) (y := 366) (mi := 236) (na := 0) (k := 621) (as := []) (rest := []) (encc := ev_oU) (Q := ev_PU) (fun x S1 h => jt_236 d (by omega) Q   s23 x S1 h) (by exact ev_ob_621) (by decide +kernel) (by decide +kernel) (by decide +kernel) (by decide +kernel) rfl (by (try simp only [ev_sum, ev_nv_cat]); first | done | rfl) ?_
          intro _ s26 _
          show ev_w _ _ _ _ _ [] _ _ _ _
          refine ev_r_aload_n (pc := 176) (k := 0) (v := .ref 621) trivial (by decide +kernel) (by exact e20) ?_
          refine ev_r_virt (pc := 177) (y := 356) (mi := 232) (na := 0) (k := 621) (as := []) (rest := []) (encc := ev_oI) (Q := ev_rng) (fun x S1 h => jt_232 d (by omega) Q   s26 x S1 h) (by exact ev_ob_621) (by decide +kernel) (by decide +kernel) (by decide +kernel) (by decide +kernel) rfl (by (try simp only [ev_sum, ev_nv_cat]); first | done | rfl) ?_
          intro x28 s27 hx28
          show ev_w _ _ _ _ _ [.int (Int32.ofInt x28)] _ _ _ _
          refine ev_r_aload_n (pc := 180) (k := 0) (v := .ref 621) trivial (by decide +kernel) (by exact e20) ?_
          refine ev_r_getI (pc := 181) (y := 375) (ci := 13) (f := 39) (fin := 0) (by decide +kernel) (by decide +kernel) (by exact ev_ob_621) rfl ?_
          intro x29 hx29
          refine ev_r_iadd (pc := 184) (by decide +kernel) ?_
          intro x30 hx30
          refine ev_r_istore (pc := 185) (k := 4) (by decide +kernel) (by decide +kernel) rfl ?_
          refine ev_r_aload_n (pc := 187) (k := 0) (v := .ref 621) trivial (by decide +kernel) (by exact (ev_l1 e20 (by decide) (by decide))) ?_
          refine ev_r_iconst (pc := 188) (k := 0) (by decide +kernel) ?_
          refine ev_r_virt (pc := 189) (y := 409) (mi := 233) (na := 1) (k := 621) (as := [.int (Int32.ofInt 0)]) (rest := []) (encc := ev_oI) (Q := ev_rng) (fun x S1 h => jt_233 d (by omega) Q 0 (by decide) s27 x S1 h) (by exact ev_ob_621) (by decide +kernel) (by decide +kernel) (by decide +kernel) (by decide +kernel) rfl (by (try simp only [ev_sum, ev_nv_cat]); first | done | rfl) ?_
          intro x32 s31 hx32
          show ev_w _ _ _ _ _ [.int (Int32.ofInt x32)] _ _ _ _
          refine ev_r_istore (pc := 192) (k := 5) (by decide +kernel) (by decide +kernel) rfl ?_
          refine ev_r_aload_n (pc := 194) (k := 0) (v := .ref 621) trivial (by decide +kernel) (by exact (ev_l1 (ev_l1 e20 (by decide) (by decide)) (by decide) (by decide))) ?_
          refine ev_r_getC (pc := 195) (y := 34) (ci := 13) (f := 11) (fin := 1) (k' := 630) (by decide +kernel) (by decide +kernel) (by exact ev_ob_621) rfl rfl ?_
          refine ev_r_iload (pc := 198) (k := 4) (v := Int32.ofInt x30) (by decide +kernel) (by exact (ev_lk_st1 ev_lk_st1_self (by decide) rfl)) ?_
          refine ev_r_iload (pc := 200) (k := 5) (v := Int32.ofInt x32) (by decide +kernel) (by exact ev_lk_st1_self) ?_
          refine ev_r_bipush (pc := 202) (k := 63) (by decide +kernel) (by decide +kernel) ?_
          refine ev_r_jn (Q := fun K => ∀ (x33 : Int) (hx33 : ev_rng x33), ∀ (x34 : Int) (hx34 : ev_rng x34), ∀ (x37 : Int) (hx37 : ev_rng x37), ∀ (x36 : Int) (hx36 : ev_rng x36), ∀ (r35 : Nat) (hr35 : ev_isAb r35 1 .int = true), ∀ (s44 : ev_St) (w38 : List (Nat × Value)), ev_lk w38 0 = some (.ref 621) → ev_lk w38 2 = some (.int (Int32.ofInt x17)) → ev_lk w38 3 = some (.int (Int32.ofInt x18)) → ev_lk w38 4 = some (.int (Int32.ofInt x33)) → ev_lk w38 5 = some (.int (Int32.ofInt x34)) → ev_w none (ev_Mof 255) d 223 w38 [.int (Int32.ofInt x37), .int (Int32.ofInt x36), .ref r35] s44 (K x33 x34 x37 x36 r35 s44) ev_eU ev_PU) ?_ ?_
          · intro x33 hx33 x34 hx34 x37 hx37 x36 hx36 r35 hr35 s44 w38 e39 e40 e41 e42 e43
            refine ev_r_iast (pc := 223) hx37 hx36 (by decide +kernel) (by exact hr35) ?_
            intro s45
            refine ev_r_aload_n (pc := 224) (k := 0) (v := .ref 621) trivial (by decide +kernel) (by exact e39) ?_
            refine ev_r_getC (pc := 225) (y := 37) (ci := 13) (f := 12) (fin := 1) (k' := 631) (by decide +kernel) (by decide +kernel) (by exact ev_ob_621) rfl rfl ?_
            refine ev_r_iload (pc := 228) (k := 4) (v := Int32.ofInt x33) (by decide +kernel) (by exact e42) ?_
            refine ev_r_iload_n (pc := 230) (k := 2) (v := Int32.ofInt x17) (by decide +kernel) (by exact e40) ?_
            refine ev_r_iast (pc := 231) hx17 hx33 (by decide +kernel) (by exact ev_ab_631) ?_
            intro s46
            refine ev_r_aload_n (pc := 232) (k := 0) (v := .ref 621) trivial (by decide +kernel) (by exact e39) ?_
            refine ev_r_getC (pc := 233) (y := 40) (ci := 13) (f := 13) (fin := 1) (k' := 632) (by decide +kernel) (by decide +kernel) (by exact ev_ob_621) rfl rfl ?_
            refine ev_r_iload (pc := 236) (k := 4) (v := Int32.ofInt x33) (by decide +kernel) (by exact e42) ?_
            refine ev_r_iload_n (pc := 238) (k := 3) (v := Int32.ofInt x18) (by decide +kernel) (by exact e41) ?_
            refine ev_r_iast (pc := 239) hx18 hx33 (by decide +kernel) (by exact ev_ab_632) ?_
            intro s47
            refine ev_r_aload_n (pc := 240) (k := 0) (v := .ref 621) trivial (by decide +kernel) (by exact e39) ?_
            refine ev_r_iload (pc := 241) (k := 5) (v := Int32.ofInt x34) (by decide +kernel) (by exact e43) ?_
            refine ev_r_bipush (pc := 243) (k := 63) (by decide +kernel) (by decide +kernel) ?_
            refine ev_r_jn (Q := fun K => ∀ (x48 : Int) (hx48 : ev_rng x48), ∀ (s51 : ev_St) (w49 : List (Nat × Value)), ev_lk w49 0 = some (.ref 621) → ev_w none (ev_Mof 255) d 260 w49 [.int (Int32.ofInt x48), .ref 621] s51 (K x48 s51) ev_eU ev_PU) ?_ ?_
            · intro x48 hx48 s51 w49 e50
              refine ev_r_virt (pc := 260) (y := 415) (mi := 234) (na := 1) (k := 621) (as := [.int (Int32.ofInt x48)]) (rest := []) (encc := ev_oU) (Q := ev_PU) (fun x S1 h => jt_234 d (by omega) Q x48 hx48 s51 x S1 h) (by exact ev_ob_621) (by decide +kernel) (by decide +kernel) (by decide +kernel) (by decide +kernel) rfl (by (try simp only [ev_sum, ev_nv_cat]); first | done | rfl) ?_
              intro _ s52 _
              show ev_w _ _ _ _ _ [] _ _ _ _
              refine ev_r_aload_n (pc := 263) (k := 0) (v := .ref 621) trivial (by decide +kernel) (by exact e50) ?_
              refine ev_r_iconst (pc := 264) (k := -1) (by decide +kernel) ?_
              refine ev_r_putI (pc := 265) (y := 375) (ci := 13) (f := 39) (by decide) (by decide +kernel) (by decide +kernel) (by exact ev_ob_621) rfl rfl ?_
              intro s53
              exact ev_r_return (pc := 268) (x := ()) trivial (by decide +kernel) (by decide +kernel) rfl
            · intro K260 hK260
              refine ev_r_jn (Q := fun K => ∀ (s56 : ev_St) (w54 : List (Nat × Value)), ev_lk w54 0 = some (.ref 621) → ev_w none (ev_Mof 255) d 255 w54 [.ref 621] s56 (K  s56) ev_eU ev_PU) ?_ ?_
              · intro  s56 w54 e55
                refine ev_r_iconst (pc := 255) (k := 1) (by decide +kernel) ?_
                refine ev_r_goto (pc := 256) (o := 4) (t := 260) (by decide +kernel) (by decide +kernel) ?_
                exact hK260 1 (by decide) s56 _ (by exact e55)
              · intro K255 hK255
                refine ev_r_icmp (pc := 245) (q := .eq) (o := 10) (t := 255) (c := x34 = 63) (by decide +kernel) (ev_k_eq hx34 (by decide)) (by decide +kernel) ?_ ?_
                · intro c57
                  exact hK255  s47 _ (by exact e39)
                · intro c57
                  refine ev_r_iload (pc := 248) (k := 5) (v := Int32.ofInt x34) (by decide +kernel) (by exact e43) ?_
                  refine ev_r_bipush (pc := 250) (k := 43) (by decide +kernel) (by decide +kernel) ?_
                  refine ev_r_icmp (pc := 252) (q := .ne) (o := 7) (t := 259) (c := x34 ≠ 43) (by decide +kernel) (ev_k_ne hx34 (by decide)) (by decide +kernel) ?_ ?_
                  · intro c58
                    refine ev_r_iconst (pc := 259) (k := 0) (by decide +kernel) ?_
                    exact hK260 0 (by decide) s47 _ (by exact e39)
                  · intro c58
                    exact hK255  s47 _ (by exact e39)
          · intro K223 hK223
            refine ev_r_icmp (pc := 204) (q := .ne) (o := 7) (t := 211) (c := x32 ≠ 63) (by decide +kernel) (ev_k_ne hx32 (by decide)) (by decide +kernel) ?_ ?_
            · intro c59
              refine ev_r_iload (pc := 211) (k := 5) (v := Int32.ofInt x32) (by decide +kernel) (by exact ev_lk_st1_self) ?_
              refine ev_r_bipush (pc := 213) (k := 43) (by decide +kernel) (by decide +kernel) ?_
              refine ev_r_icmp (pc := 215) (q := .ne) (o := 7) (t := 222) (c := x32 ≠ 43) (by decide +kernel) (ev_k_ne hx32 (by decide)) (by decide +kernel) ?_ ?_
              · intro c60
                refine ev_r_iconst (pc := 222) (k := 0) (by decide +kernel) ?_
                exact hK223 x30 hx30 x32 hx32 0 (by decide) x30 hx30 630 ev_ab_630 s31 _ (by exact (ev_l1 (ev_l1 e20 (by decide) (by decide)) (by decide) (by decide))) (by exact (ev_l1 (ev_l1 e21 (by decide) (by decide)) (by decide) (by decide))) (by exact (ev_l1 (ev_lk_st1 e22 (by decide) rfl) (by decide) (by decide))) (by exact (ev_lk_st1 ev_lk_st1_self (by decide) rfl)) (by exact ev_lk_st1_self)
              · intro c60
                refine ev_r_iconst (pc := 218) (k := 2) (by decide +kernel) ?_
                refine ev_r_goto (pc := 219) (o := 4) (t := 223) (by decide +kernel) (by decide +kernel) ?_
                exact hK223 x30 hx30 x32 hx32 2 (by decide) x30 hx30 630 ev_ab_630 s31 _ (by exact (ev_l1 (ev_l1 e20 (by decide) (by decide)) (by decide) (by decide))) (by exact (ev_l1 (ev_l1 e21 (by decide) (by decide)) (by decide) (by decide))) (by exact (ev_l1 (ev_lk_st1 e22 (by decide) rfl) (by decide) (by decide))) (by exact (ev_lk_st1 ev_lk_st1_self (by decide) rfl)) (by exact ev_lk_st1_self)
            · intro c59
              refine ev_r_iconst (pc := 207) (k := 1) (by decide +kernel) ?_
              refine ev_r_goto (pc := 208) (o := 15) (t := 223) (by decide +kernel) (by decide +kernel) ?_
              exact hK223 x30 hx30 x32 hx32 1 (by decide) x30 hx30 630 ev_ab_630 s31 _ (by exact (ev_l1 (ev_l1 e20 (by decide) (by decide)) (by decide) (by decide))) (by exact (ev_l1 (ev_l1 e21 (by decide) (by decide)) (by decide) (by decide))) (by exact (ev_l1 (ev_lk_st1 e22 (by decide) rfl) (by decide) (by decide))) (by exact (ev_lk_st1 ev_lk_st1_self (by decide) rfl)) (by exact ev_lk_st1_self)
        · intro c25
          refine ev_r_aload_n (pc := 166) (k := 0) (v := .ref 621) trivial (by decide +kernel) (by exact e20) ?_
          refine ev_r_iconst (pc := 167) (k := 1) (by decide +kernel) ?_
          refine ev_r_putI (pc := 168) (y := 352) (ci := 13) (f := 25) (by decide) (by decide +kernel) (by decide +kernel) (by exact ev_ob_621) rfl (ev_fit_bl (by decide : ev_bl 1)) ?_
          intro s61
          exact ev_r_return (pc := 171) (x := ()) trivial (by decide +kernel) (by decide +kernel) rfl
      · intro K158 hK158
        refine ev_r_icmp (pc := 38) (q := .ne) (o := 120) (t := 158) (c := x4 ≠ 123) (by decide +kernel) (ev_k_ne hx4 (by decide)) (by decide +kernel) ?_ ?_
        · intro c62
          exact hK158 x10 hx10 x11 hx11 s16 _ (by exact (ev_l1 e13 (by decide) (by decide))) (by exact (ev_lk_st1 e15 (by decide) rfl)) (by exact ev_lk_st1_self)
        · intro c62
          refine ev_r_aload_n (pc := 41) (k := 0) (v := .ref 621) trivial (by decide +kernel) (by exact (ev_l1 e13 (by decide) (by decide))) ?_
          refine ev_r_virt (pc := 42) (y := 446) (mi := 254) (na := 0) (k := 621) (as := []) (rest := []) (encc := ev_oI) (Q := ev_rng) (fun x S1 h => jt_254 d (by omega) Q   s16 x S1 h) (by exact ev_ob_621) (by decide +kernel) (by decide +kernel) (by decide +kernel) (by decide +kernel) rfl (by (try simp only [ev_sum, ev_nv_cat]); first | done | rfl) ?_
          intro x64 s63 hx64
          show ev_w _ _ _ _ _ [.int (Int32.ofInt x64)] _ _ _ _
          refine ev_r_istore_n (pc := 45) (k := 2) (by decide +kernel) (by decide +kernel) rfl ?_
          refine ev_r_iload_n (pc := 46) (k := 2) (v := Int32.ofInt x64) (by decide +kernel) (by exact ev_lk_st1_self) ?_
          refine ev_r_istore_n (pc := 47) (k := 3) (by decide +kernel) (by decide +kernel) rfl ?_
          refine ev_r_aload_n (pc := 48) (k := 0) (v := .ref 621) trivial (by decide +kernel) (by exact (ev_l1 (ev_l1 (ev_l1 e13 (by decide) (by decide)) (by decide) (by decide)) (by decide) (by decide))) ?_
          refine ev_r_aload_n (pc := 49) (k := 0) (v := .ref 621) trivial (by decide +kernel) (by exact (ev_l1 (ev_l1 (ev_l1 e13 (by decide) (by decide)) (by decide) (by decide)) (by decide) (by decide))) ?_
          refine ev_r_getI (pc := 50) (y := 352) (ci := 13) (f := 25) (fin := 0) (by decide +kernel) (by decide +kernel) (by exact ev_ob_621) rfl ?_
          intro x65 hx65
          refine ev_r_jn (Q := fun K => ∀ (x66 : Int) (hx66 : ev_rng x66), ∀ (x67 : Int) (hx67 : ev_rng x67), ∀ (x68 : Int) (hx68 : ev_rng x68), ∀ (s73 : ev_St) (w69 : List (Nat × Value)), ev_lk w69 0 = some (.ref 621) → ev_lk w69 2 = some (.int (Int32.ofInt x66)) → ev_lk w69 3 = some (.int (Int32.ofInt x67)) → ev_w none (ev_Mof 255) d 66 w69 [.int (Int32.ofInt x68), .ref 621] s73 (K x66 x67 x68 s73) ev_eU ev_PU) ?_ ?_
          · intro x66 hx66 x67 hx67 x68 hx68 s73 w69 e70 e71 e72
            refine ev_r_chk ?_
            intro c75
            refine ev_r_putI (pc := 66) (y := 352) (ci := 13) (f := 25) hx68 (by decide +kernel) (by decide +kernel) (by exact ev_ob_621) rfl (ev_fit_bl c75) ?_
            intro s74
            refine ev_r_aload_n (pc := 69) (k := 0) (v := .ref 621) trivial (by decide +kernel) (by exact e70) ?_
            refine ev_r_iconst (pc := 70) (k := 0) (by decide +kernel) ?_
            refine ev_r_virt (pc := 71) (y := 409) (mi := 233) (na := 1) (k := 621) (as := [.int (Int32.ofInt 0)]) (rest := []) (encc := ev_oI) (Q := ev_rng) (fun x S1 h => jt_233 d (by omega) Q 0 (by decide) s74 x S1 h) (by exact ev_ob_621) (by decide +kernel) (by decide +kernel) (by decide +kernel) (by decide +kernel) rfl (by (try simp only [ev_sum, ev_nv_cat]); first | done | rfl) ?_
            intro x77 s76 hx77
            show ev_w _ _ _ _ _ [.int (Int32.ofInt x77)] _ _ _ _
            refine ev_r_bipush (pc := 74) (k := 44) (by decide +kernel) (by decide +kernel) ?_
            refine ev_r_jn (Q := fun K => ∀ (x78 : Int) (hx78 : ev_rng x78), ∀ (s83 : ev_St) (w79 : List (Nat × Value)), ev_lk w79 0 = some (.ref 621) → ev_lk w79 2 = some (.int (Int32.ofInt x66)) → ev_lk w79 3 = some (.int (Int32.ofInt x78)) → ev_w none (ev_Mof 255) d 127 w79 [] s83 (K x78 s83) ev_eU ev_PU) ?_ ?_
            · intro x78 hx78 s83 w79 e80 e81 e82
              refine ev_r_aload_n (pc := 127) (k := 0) (v := .ref 621) trivial (by decide +kernel) (by exact e80) ?_
              refine ev_r_aload_n (pc := 128) (k := 0) (v := .ref 621) trivial (by decide +kernel) (by exact e80) ?_
              refine ev_r_getI (pc := 129) (y := 352) (ci := 13) (f := 25) (fin := 0) (by decide +kernel) (by decide +kernel) (by exact ev_ob_621) rfl ?_
              intro x84 hx84
              refine ev_r_jn (Q := fun K => ∀ (x85 : Int) (hx85 : ev_rng x85), ∀ (s90 : ev_St) (w86 : List (Nat × Value)), ev_lk w86 0 = some (.ref 621) → ev_lk w86 2 = some (.int (Int32.ofInt x66)) → ev_lk w86 3 = some (.int (Int32.ofInt x78)) → ev_w none (ev_Mof 255) d 150 w86 [.int (Int32.ofInt x85), .ref 621] s90 (K x85 s90) ev_eU ev_PU) ?_ ?_
              · intro x85 hx85 s90 w86 e87 e88 e89
                refine ev_r_chk ?_
                intro c92
                refine ev_r_putI (pc := 150) (y := 352) (ci := 13) (f := 25) hx85 (by decide +kernel) (by decide +kernel) (by exact ev_ob_621) rfl (ev_fit_bl c92) ?_
                intro s91
                refine ev_r_aload_n (pc := 153) (k := 0) (v := .ref 621) trivial (by decide +kernel) (by exact e87) ?_
                refine ev_r_iconst (pc := 154) (k := 1) (by decide +kernel) ?_
                refine ev_r_virt (pc := 155) (y := 415) (mi := 234) (na := 1) (k := 621) (as := [.int (Int32.ofInt 1)]) (rest := []) (encc := ev_oU) (Q := ev_PU) (fun x S1 h => jt_234 d (by omega) Q 1 (by decide) s91 x S1 h) (by exact ev_ob_621) (by decide +kernel) (by decide +kernel) (by decide +kernel) (by decide +kernel) rfl (by (try simp only [ev_sum, ev_nv_cat]); first | done | rfl) ?_
                intro _ s93 _
                show ev_w _ _ _ _ _ [] _ _ _ _
                exact hK158 x66 hx66 x78 hx78 s93 _ (by exact e87) (by exact e88) (by exact e89)
              · intro K150 hK150
                refine ev_r_jn (Q := fun K => ∀ (s98 : ev_St) (w94 : List (Nat × Value)), ev_lk w94 0 = some (.ref 621) → ev_lk w94 2 = some (.int (Int32.ofInt x66)) → ev_lk w94 3 = some (.int (Int32.ofInt x78)) → ev_w none (ev_Mof 255) d 145 w94 [.ref 621] s98 (K  s98) ev_eU ev_PU) ?_ ?_
                · intro  s98 w94 e95 e96 e97
                  refine ev_r_iconst (pc := 145) (k := 1) (by decide +kernel) ?_
                  refine ev_r_goto (pc := 146) (o := 4) (t := 150) (by decide +kernel) (by decide +kernel) ?_
                  exact hK150 1 (by decide) s98 _ (by exact e95) (by exact e96) (by exact e97)
                · intro K145 hK145
                  refine ev_r_if (pc := 132) (q := .ne) (o := 13) (t := 145) (c := x84 ≠ 0) (by decide +kernel) (ev_k_ne hx84 ev_rng0) (by decide +kernel) ?_ ?_
                  · intro c99
                    exact hK145  s83 _ (by exact e80) (by exact e81) (by exact e82)
                  · intro c99
                    refine ev_r_aload_n (pc := 135) (k := 0) (v := .ref 621) trivial (by decide +kernel) (by exact e80) ?_
                    refine ev_r_iconst (pc := 136) (k := 0) (by decide +kernel) ?_
                    refine ev_r_virt (pc := 137) (y := 409) (mi := 233) (na := 1) (k := 621) (as := [.int (Int32.ofInt 0)]) (rest := [.ref 621]) (encc := ev_oI) (Q := ev_rng) (fun x S1 h => jt_233 d (by omega) Q 0 (by decide) s83 x S1 h) (by exact ev_ob_621) (by decide +kernel) (by decide +kernel) (by decide +kernel) (by decide +kernel) rfl (by (try simp only [ev_sum, ev_nv_cat]); first | done | rfl) ?_
                    intro x101 s100 hx101
                    show ev_w _ _ _ _ _ [.int (Int32.ofInt x101), .ref 621] _ _ _ _
                    refine ev_r_bipush (pc := 140) (k := 125) (by decide +kernel) (by decide +kernel) ?_
                    refine ev_r_icmp (pc := 142) (q := .eq) (o := 7) (t := 149) (c := x101 = 125) (by decide +kernel) (ev_k_eq hx101 (by decide)) (by decide +kernel) ?_ ?_
                    · intro c102
                      refine ev_r_iconst (pc := 149) (k := 0) (by decide +kernel) ?_
                      exact hK150 0 (by decide) s100 _ (by exact e80) (by exact e81) (by exact e82)
                    · intro c102
                      exact hK145  s100 _ (by exact e80) (by exact e81) (by exact e82)
            · intro K127 hK127
              refine ev_r_icmp (pc := 76) (q := .ne) (o := 51) (t := 127) (c := x77 ≠ 44) (by decide +kernel) (ev_k_ne hx77 (by decide)) (by decide +kernel) ?_ ?_
              · intro c103
                exact hK127 x67 hx67 s76 _ (by exact e70) (by exact e71) (by exact e72)
              · intro c103
                refine ev_r_aload_n (pc := 79) (k := 0) (v := .ref 621) trivial (by decide +kernel) (by exact e70) ?_
                refine ev_r_iconst (pc := 80) (k := 1) (by decide +kernel) ?_
                refine ev_r_virt (pc := 81) (y := 415) (mi := 234) (na := 1) (k := 621) (as := [.int (Int32.ofInt 1)]) (rest := []) (encc := ev_oU) (Q := ev_PU) (fun x S1 h => jt_234 d (by omega) Q 1 (by decide) s76 x S1 h) (by exact ev_ob_621) (by decide +kernel) (by decide +kernel) (by decide +kernel) (by decide +kernel) rfl (by (try simp only [ev_sum, ev_nv_cat]); first | done | rfl) ?_
                intro _ s104 _
                show ev_w _ _ _ _ _ [] _ _ _ _
                refine ev_r_iconst (pc := 84) (k := -1) (by decide +kernel) ?_
                refine ev_r_istore_n (pc := 85) (k := 3) (by decide +kernel) (by decide +kernel) rfl ?_
                refine ev_r_aload_n (pc := 86) (k := 0) (v := .ref 621) trivial (by decide +kernel) (by exact (ev_l1 e70 (by decide) (by decide))) ?_
                refine ev_r_iconst (pc := 87) (k := 0) (by decide +kernel) ?_
                refine ev_r_virt (pc := 88) (y := 409) (mi := 233) (na := 1) (k := 621) (as := [.int (Int32.ofInt 0)]) (rest := []) (encc := ev_oI) (Q := ev_rng) (fun x S1 h => jt_233 d (by omega) Q 0 (by decide) s104 x S1 h) (by exact ev_ob_621) (by decide +kernel) (by decide +kernel) (by decide +kernel) (by decide +kernel) rfl (by (try simp only [ev_sum, ev_nv_cat]); first | done | rfl) ?_
                intro x106 s105 hx106
                show ev_w _ _ _ _ _ [.int (Int32.ofInt x106)] _ _ _ _
                refine ev_r_bipush (pc := 91) (k := 125) (by decide +kernel) (by decide +kernel) ?_
                refine ev_r_icmp (pc := 93) (q := .eq) (o := 34) (t := 127) (c := x106 = 125) (by decide +kernel) (ev_k_eq hx106 (by decide)) (by decide +kernel) ?_ ?_
                · intro c107
                  exact hK127 ((-1)) (by decide) s105 _ (by exact (ev_l1 e70 (by decide) (by decide))) (by exact (ev_lk_st1 e71 (by decide) rfl)) (by exact ev_lk_st1_self)
                · intro c107
                  refine ev_r_aload_n (pc := 96) (k := 0) (v := .ref 621) trivial (by decide +kernel) (by exact (ev_l1 e70 (by decide) (by decide))) ?_
                  refine ev_r_virt (pc := 97) (y := 446) (mi := 254) (na := 0) (k := 621) (as := []) (rest := []) (encc := ev_oI) (Q := ev_rng) (fun x S1 h => jt_254 d (by omega) Q   s105 x S1 h) (by exact ev_ob_621) (by decide +kernel) (by decide +kernel) (by decide +kernel) (by decide +kernel) rfl (by (try simp only [ev_sum, ev_nv_cat]); first | done | rfl) ?_
                  intro x109 s108 hx109
                  show ev_w _ _ _ _ _ [.int (Int32.ofInt x109)] _ _ _ _
                  refine ev_r_istore_n (pc := 100) (k := 3) (by decide +kernel) (by decide +kernel) rfl ?_
                  refine ev_r_aload_n (pc := 101) (k := 0) (v := .ref 621) trivial (by decide +kernel) (by exact (ev_l1 (ev_l1 e70 (by decide) (by decide)) (by decide) (by decide))) ?_
                  refine ev_r_aload_n (pc := 102) (k := 0) (v := .ref 621) trivial (by decide +kernel) (by exact (ev_l1 (ev_l1 e70 (by decide) (by decide)) (by decide) (by decide))) ?_
                  refine ev_r_getI (pc := 103) (y := 352) (ci := 13) (f := 25) (fin := 0) (by decide +kernel) (by decide +kernel) (by exact ev_ob_621) rfl ?_
                  intro x110 hx110
                  refine ev_r_jn (Q := fun K => ∀ (x111 : Int) (hx111 : ev_rng x111), ∀ (x112 : Int) (hx112 : ev_rng x112), ∀ (s117 : ev_St) (w113 : List (Nat × Value)), ev_lk w113 0 = some (.ref 621) → ev_lk w113 2 = some (.int (Int32.ofInt x66)) → ev_lk w113 3 = some (.int (Int32.ofInt x111)) → ev_w none (ev_Mof 255) d 124 w113 [.int (Int32.ofInt x112), .ref 621] s117 (K x111 x112 s117) ev_eU ev_PU) ?_ ?_
                  · intro x111 hx111 x112 hx112 s117 w113 e114 e115 e116
                    refine ev_r_chk ?_
                    intro c119
                    refine ev_r_putI (pc := 124) (y := 352) (ci := 13) (f := 25) hx112 (by decide +kernel) (by decide +kernel) (by exact ev_ob_621) rfl (ev_fit_bl c119) ?_
                    intro s118
                    exact hK127 x111 hx111 s118 _ (by exact e114) (by exact e115) (by exact e116)
                  · intro K124 hK124
                    refine ev_r_jn (Q := fun K => ∀ (x120 : Int) (hx120 : ev_rng x120), ∀ (s125 : ev_St) (w121 : List (Nat × Value)), ev_lk w121 0 = some (.ref 621) → ev_lk w121 2 = some (.int (Int32.ofInt x66)) → ev_lk w121 3 = some (.int (Int32.ofInt x120)) → ev_w none (ev_Mof 255) d 119 w121 [.ref 621] s125 (K x120 s125) ev_eU ev_PU) ?_ ?_
                    · intro x120 hx120 s125 w121 e122 e123 e124
                      refine ev_r_iconst (pc := 119) (k := 1) (by decide +kernel) ?_
                      refine ev_r_goto (pc := 120) (o := 4) (t := 124) (by decide +kernel) (by decide +kernel) ?_
                      exact hK124 x120 hx120 1 (by decide) s125 _ (by exact e122) (by exact e123) (by exact e124)
                    · intro K119 hK119
                      refine ev_r_if (pc := 106) (q := .ne) (o := 13) (t := 119) (c := x110 ≠ 0) (by decide +kernel) (ev_k_ne hx110 ev_rng0) (by decide +kernel) ?_ ?_
                      · intro c126
                        exact hK119 x109 hx109 s108 _ (by exact (ev_l1 (ev_l1 e70 (by decide) (by decide)) (by decide) (by decide))) (by exact (ev_lk_st1 (ev_lk_st1 e71 (by decide) rfl) (by decide) rfl)) (by exact ev_lk_st1_self)
                      · intro c126
                        refine ev_r_iload_n (pc := 109) (k := 3) (v := Int32.ofInt x109) (by decide +kernel) (by exact ev_lk_st1_self) ?_
                        refine ev_r_iconst (pc := 110) (k := -1) (by decide +kernel) ?_
                        refine ev_r_icmp (pc := 111) (q := .eq) (o := 8) (t := 119) (c := x109 = (-1)) (by decide +kernel) (ev_k_eq hx109 (by decide)) (by decide +kernel) ?_ ?_
                        · intro c127
                          exact hK119 x109 hx109 s108 _ (by exact (ev_l1 (ev_l1 e70 (by decide) (by decide)) (by decide) (by decide))) (by exact (ev_lk_st1 (ev_lk_st1 e71 (by decide) rfl) (by decide) rfl)) (by exact ev_lk_st1_self)
                        · intro c127
                          refine ev_r_iload_n (pc := 114) (k := 3) (v := Int32.ofInt x109) (by decide +kernel) (by exact ev_lk_st1_self) ?_
                          refine ev_r_iload_n (pc := 115) (k := 2) (v := Int32.ofInt x66) (by decide +kernel) (by exact (ev_lk_st1 (ev_lk_st1 e71 (by decide) rfl) (by decide) rfl)) ?_
                          refine ev_r_icmp (pc := 116) (q := .ge) (o := 7) (t := 123) (c := x66 ≤ x109) (by decide +kernel) (ev_k_ge hx109 hx66) (by decide +kernel) ?_ ?_
                          · intro c128
                            refine ev_r_iconst (pc := 123) (k := 0) (by decide +kernel) ?_
                            exact hK124 x109 hx109 0 (by decide) s108 _ (by exact (ev_l1 (ev_l1 e70 (by decide) (by decide)) (by decide) (by decide))) (by exact (ev_lk_st1 (ev_lk_st1 e71 (by decide) rfl) (by decide) rfl)) (by exact ev_lk_st1_self)
                          · intro c128
                            exact hK119 x109 hx109 s108 _ (by exact (ev_l1 (ev_l1 e70 (by decide) (by decide)) (by decide) (by decide))) (by exact (ev_lk_st1 (ev_lk_st1 e71 (by decide) rfl) (by decide) rfl)) (by exact ev_lk_st1_self)
          · intro K66 hK66
            refine ev_r_jn (Q := fun K => ∀ (x129 : Int) (hx129 : ev_rng x129), ∀ (x130 : Int) (hx130 : ev_rng x130), ∀ (s135 : ev_St) (w131 : List (Nat × Value)), ev_lk w131 0 = some (.ref 621) → ev_lk w131 2 = some (.int (Int32.ofInt x129)) → ev_lk w131 3 = some (.int (Int32.ofInt x130)) → ev_w none (ev_Mof 255) d 61 w131 [.ref 621] s135 (K x129 x130 s135) ev_eU ev_PU) ?_ ?_
            · intro x129 hx129 x130 hx130 s135 w131 e132 e133 e134
              refine ev_r_iconst (pc := 61) (k := 1) (by decide +kernel) ?_
              refine ev_r_goto (pc := 62) (o := 4) (t := 66) (by decide +kernel) (by decide +kernel) ?_
              exact hK66 x129 hx129 x130 hx130 1 (by decide) s135 _ (by exact e132) (by exact e133) (by exact e134)
            · intro K61 hK61
              refine ev_r_if (pc := 53) (q := .ne) (o := 8) (t := 61) (c := x65 ≠ 0) (by decide +kernel) (ev_k_ne hx65 ev_rng0) (by decide +kernel) ?_ ?_
              · intro c136
                exact hK61 x64 hx64 x64 hx64 s63 _ (by exact (ev_l1 (ev_l1 (ev_l1 e13 (by decide) (by decide)) (by decide) (by decide)) (by decide) (by decide))) (by exact (ev_lk_st1 ev_lk_st1_self (by decide) rfl)) (by exact ev_lk_st1_self)
              · intro c136
                refine ev_r_iload_n (pc := 56) (k := 2) (v := Int32.ofInt x64) (by decide +kernel) (by exact (ev_lk_st1 ev_lk_st1_self (by decide) rfl)) ?_
                refine ev_r_iconst (pc := 57) (k := -1) (by decide +kernel) ?_
                refine ev_r_icmp (pc := 58) (q := .ne) (o := 7) (t := 65) (c := x64 ≠ (-1)) (by decide +kernel) (ev_k_ne hx64 (by decide)) (by decide +kernel) ?_ ?_
                · intro c137
                  refine ev_r_iconst (pc := 65) (k := 0) (by decide +kernel) ?_
                  exact hK66 x64 hx64 x64 hx64 0 (by decide) s63 _ (by exact (ev_l1 (ev_l1 (ev_l1 e13 (by decide) (by decide)) (by decide) (by decide)) (by decide) (by decide))) (by exact (ev_lk_st1 ev_lk_st1_self (by decide) rfl)) (by exact ev_lk_st1_self)
                · intro c137
                  exact hK61 x64 hx64 x64 hx64 s63 _ (by exact (ev_l1 (ev_l1 (ev_l1 e13 (by decide) (by decide)) (by decide) (by decide)) (by decide) (by decide))) (by exact (ev_lk_st1 ev_lk_st1_self (by decide) rfl)) (by exact ev_lk_st1_self)
    · intro K34 hK34
      refine ev_r_icmp (pc := 26) (q := .ne) (o := 7) (t := 33) (c := x4 ≠ 63) (by decide +kernel) (ev_k_ne hx4 (by decide)) (by decide +kernel) ?_ ?_
      · intro c138
        refine ev_r_iconst (pc := 33) (k := -1) (by decide +kernel) ?_
        exact hK34 x5 hx5 ((-1)) (by decide) s9 _ (by exact (ev_l1 e7 (by decide) (by decide))) (by exact (ev_lk_st1 e8 (by decide) rfl)) (by exact ev_lk_st1_self)
      · intro c138
        refine ev_r_iconst (pc := 29) (k := 1) (by decide +kernel) ?_
        refine ev_r_goto (pc := 30) (o := 4) (t := 34) (by decide +kernel) (by decide +kernel) ?_
        exact hK34 x5 hx5 1 (by decide) s9 _ (by exact (ev_l1 e7 (by decide) (by decide))) (by exact (ev_lk_st1 e8 (by decide) rfl)) (by exact ev_lk_st1_self)
  · intro K22 hK22
    refine ev_r_icmp (pc := 14) (q := .ne) (o := 7) (t := 21) (c := x2 ≠ 43) (by decide +kernel) (ev_k_ne hx2 (by decide)) (by decide +kernel) ?_ ?_
    · intro c139
      refine ev_r_iconst (pc := 21) (k := 0) (by decide +kernel) ?_
      exact hK22 x2 hx2 0 (by decide) s3 _ (by exact (ev_lk_st1 (by rfl) (by decide) rfl)) (by exact ev_lk_st1_self)
    · intro c139
      refine ev_r_iconst (pc := 17) (k := 1) (by decide +kernel) ?_
      refine ev_r_goto (pc := 18) (o := 4) (t := 22) (by decide +kernel) (by decide +kernel) ?_
      exact hK22 x2 hx2 1 (by decide) s3 _ (by exact (ev_lk_st1 (by rfl) (by decide) rfl)) (by exact ev_lk_st1_self)
/-- MendBenchModel.escapes()V -/
def jm_256 (Q : Nat)  (S : ev_St) : Option ((Unit) × ev_St) := ev_bd (jm_233 Q 1 S) fun x2 s1 => ev_bd (jm_234 Q 2 s1) fun _ s3 => ev_bd (jm_247 Q x2 s3) fun x5 s4 => if x5 = 0 then (if x2 ≠ 110 then (ev_jn (fun  (s11 : ev_St) => ev_jn (fun (x12 : Int) (s14 : ev_St) => ev_bd (jm_237 Q x12 s14) fun x16 s15 => some ((), s15)) fun K86 => if x2 ≠ 98 then (K86 6 s11) else (K86 5 s11)) fun K73 => if x2 = 98 then (K73  s4) else (if x2 ≠ 66 then (ev_jn (fun  (s23 : ev_St) => ev_jn (fun (x24 : Int) (s26 : ev_St) => ev_bd (jm_237 Q x24 s26) fun x28 s27 => some ((), s27)) fun K117 => if x2 ≠ 65 then (K117 4 s23) else (K117 3 s23)) fun K105 => if x2 = 65 then (K105  s4) else (if x2 ≠ 122 then (ev_bd (jm_222 Q x2 49 57 s4) fun x33 s32 => if x33 = 0 then (if x2 ≠ 107 then (ev_bd (jm_228 Q x2 s32) fun x37 s36 => if x37 = 0 then (ev_b (ev_pI s36 621 25 1) fun s39 => some ((), s39)) else (ev_bd (jm_242 Q x2 s36) fun y41 s40 => ev_bd (jm_243 Q x2 s40) fun y43 s42 => ev_bd (jm_238 Q y41 y43 s42) fun _ s44 => some ((), s44))) else (ev_b (s32.1 621 25) fun x45 => ev_jn (fun (x46 : Int) (s49 : ev_St) => ev_if (ev_bl x46) (ev_b (ev_pI s49 621 25 x46) fun s50 => ev_bd (jm_232 Q  s50) fun x53 s52 => ev_bd (jm_237 Q 7 s52) fun x55 s54 => ev_ck (x53 + x55) fun x56 => ev_bd (jm_233 Q 1 s54) fun x58 s57 => ev_ck (x58 - 97) fun x59 => ev_ck ((-1) - x59) fun x60 => ev_if ((0 : Int) ≤ x56 ∧ x56 < (ev_aln 628 : Int)) (ev_b (ev_pI s57 628 (Int.toNat x56) x60) fun s61 => ev_b (s61.1 621 40) fun x62 => ev_b (ev_iand x62 1) fun x63 => ev_if ((0 : Int) ≤ x56 ∧ x56 < (ev_aln 629 : Int)) (ev_b (ev_pI s61 629 (Int.toNat x56) x63) fun s64 => ev_bd (jm_234 Q 3 s64) fun _ s65 => some ((), s65))))) fun K222 => ev_jn (fun  (s68 : ev_St) => K222 1 s68) fun K217 => if x45 ≠ 0 then (K217  s32) else (ev_bd (jm_233 Q 0 s32) fun x71 s70 => if x71 ≠ 60 then (K217  s70) else (ev_bd (jm_233 Q 1 s70) fun x74 s73 => ev_bd (jm_224 Q x74 s73) fun x76 s75 => if x76 = 0 then (K217  s75) else (ev_bd (jm_233 Q 2 s75) fun x79 s78 => if x79 = 62 then (K222 0 s78) else (K217  s78)))))) else (ev_bd (jm_232 Q  s32) fun x82 s81 => ev_bd (jm_237 Q 7 s81) fun x84 s83 => ev_ck (x82 + x84) fun x85 => ev_ck (x2 - 48) fun x86 => ev_if ((0 : Int) ≤ x85 ∧ x85 < (ev_aln 628 : Int)) (ev_b (ev_pI s83 628 (Int.toNat x85) x86) fun s87 => ev_b (s87.1 621 40) fun x88 => ev_b (ev_iand x88 1) fun x89 => ev_if ((0 : Int) ≤ x85 ∧ x85 < (ev_aln 629 : Int)) (ev_b (ev_pI s87 629 (Int.toNat x85) x89) fun s90 => some ((), s90))))) else (K105  s4))) else (K73  s4))) else (ev_bd (jm_242 Q 10 s4) fun y92 s91 => ev_bd (jm_243 Q 10 s91) fun y94 s93 => ev_bd (jm_238 Q y92 y94 s93) fun _ s95 => some ((), s95))) else (ev_bd (jm_246 Q x2 s4) fun _ s96 => ev_b (s96.2.1 621 41) fun y97 => ev_b (s96.2.1 621 42) fun y98 => ev_bd (jm_238 Q y97 y98 s96) fun _ s99 => some ((), s99))
theorem jt_256 (d : Nat) (hd : 6 ≤ d) (Q : Nat)   (S : ev_St) (x : Unit) (S' : ev_St) (hJ : jm_256 Q  S = some (x, S')) : ev_Ref d 256 [.ref 621] S (ev_eU x) S' (ev_PU x) := by
  obtain ⟨d, rfl⟩ : ∃ e, d = e + 1 := ⟨d - 1, by omega⟩
  refine ev_ref_of (P := ev_PU) (lv := [(0, .ref 621)]) (by decide +kernel) (by (try simp only [ev_sum, ev_nv_cat]); first | done | rfl) (by (try simp only [lv_args, ev_nv_cat]); first | done | rfl) ?_ x S' hJ
  unfold jm_256
  refine ev_r_aload_n (pc := 0) (k := 0) (v := .ref 621) trivial (by decide +kernel) (by rfl) ?_
  refine ev_r_iconst (pc := 1) (k := 1) (by decide +kernel) ?_
  refine ev_r_virt (pc := 2) (y := 409) (mi := 233) (na := 1) (k := 621) (as := [.int (Int32.ofInt 1)]) (rest := []) (encc := ev_oI) (Q := ev_rng) (fun x S1 h => jt_233 d (by omega) Q 1 (by decide) S x S1 h) (by exact ev_ob_621) (by decide +kernel) (by decide +kernel) (by decide +kernel) (by decide +kernel) rfl (by (try simp only [ev_sum, ev_nv_cat]); first | done | rfl) ?_
  intro x2 s1 hx2
  show ev_w _ _ _ _ _ [.int (Int32.ofInt x2)] _ _ _ _
  refine ev_r_istore_n (pc := 5) (k := 1) (by decide +kernel) (by decide +kernel) rfl ?_
  refine ev_r_aload_n (pc := 6) (k := 0) (v := .ref 621) trivial (by decide +kernel) (by exact (ev_lk_st1 (by rfl) (by decide) rfl)) ?_
  refine ev_r_iconst (pc := 7) (k := 2) (by decide +kernel) ?_
  refine ev_r_virt (pc := 8) (y := 415) (mi := 234) (na := 1) (k := 621) (as := [.int (Int32.ofInt 2)]) (rest := []) (encc := ev_oU) (Q := ev_PU) (fun x S1 h => jt_234 d (by omega) Q 2 (by decide) s1 x S1 h) (by exact ev_ob_621) (by decide +kernel) (by decide +kernel) (by decide +kernel) (by decide +kernel) rfl (by (try simp only [ev_sum, ev_nv_cat]); first | done | rfl) ?_
  intro _ s3 _
  show ev_w _ _ _ _ _ [] _ _ _ _
  refine ev_r_iload_n (pc := 11) (k := 1) (v := Int32.ofInt x2) (by decide +kernel) (by exact ev_lk_st1_self) ?_
  refine ev_r_stat (pc := 12) (y := 433) (kind := 2) (mi := 247) (na := 1) (as := [.int (Int32.ofInt x2)]) (rest := []) (encc := ev_oI) (Q := ev_bl) (fun x S1 h => jt_247 d (by omega) Q x2 hx2 s3 x S1 h) (Or.inl rfl) (by decide +kernel) (by decide +kernel) (by decide +kernel) (by decide +kernel) rfl (by (try simp only [ev_sum, ev_nv_cat]); first | done | rfl) ?_
  intro x5 s4 hx5
  replace hx5 := ev_bl_rng hx5
  show ev_w _ _ _ _ _ [.int (Int32.ofInt x5)] _ _ _ _
  refine ev_r_if (pc := 15) (q := .eq) (o := 23) (t := 38) (c := x5 = 0) (by decide +kernel) (ev_k_eq hx5 ev_rng0) (by decide +kernel) ?_ ?_
  · intro c6
    refine ev_r_iload_n (pc := 38) (k := 1) (v := Int32.ofInt x2) (by decide +kernel) (by exact ev_lk_st1_self) ?_
    refine ev_r_bipush (pc := 39) (k := 110) (by decide +kernel) (by decide +kernel) ?_
    refine ev_r_icmp (pc := 41) (q := .ne) (o := 20) (t := 61) (c := x2 ≠ 110) (by decide +kernel) (ev_k_ne hx2 (by decide)) (by decide +kernel) ?_ ?_
    · intro c7
      refine ev_r_iload_n (pc := 61) (k := 1) (v := Int32.ofInt x2) (by decide +kernel) (by exact ev_lk_st1_self) ?_
      refine ev_r_bipush (pc := 62) (k := 98) (by decide +kernel) (by decide +kernel) ?_
      refine ev_r_jn (Q := fun K => ∀ (s11 : ev_St) (w8 : List (Nat × Value)), ev_lk w8 0 = some (.ref 621) → ev_lk w8 1 = some (.int (Int32.ofInt x2)) → ev_w none (ev_Mof 256) d 73 w8 [] s11 (K  s11) ev_eU ev_PU) ?_ ?_
      · intro  s11 w8 e9 e10
        refine ev_r_aload_n (pc := 73) (k := 0) (v := .ref 621) trivial (by decide +kernel) (by exact e9) ?_
        refine ev_r_iload_n (pc := 74) (k := 1) (v := Int32.ofInt x2) (by decide +kernel) (by exact e10) ?_
        refine ev_r_bipush (pc := 75) (k := 98) (by decide +kernel) (by decide +kernel) ?_
        refine ev_r_jn (Q := fun K => ∀ (x12 : Int) (hx12 : ev_rng x12), ∀ (s14 : ev_St) (w13 : List (Nat × Value)), ev_w none (ev_Mof 256) d 86 w13 [.int (Int32.ofInt x12), .ref 621] s14 (K x12 s14) ev_eU ev_PU) ?_ ?_
        · intro x12 hx12 s14 w13 
          refine ev_r_virt (pc := 86) (y := 378) (mi := 237) (na := 1) (k := 621) (as := [.int (Int32.ofInt x12)]) (rest := []) (encc := ev_oI) (Q := ev_rng) (fun x S1 h => jt_237 d (by omega) Q x12 hx12 s14 x S1 h) (by exact ev_ob_621) (by decide +kernel) (by decide +kernel) (by decide +kernel) (by decide +kernel) rfl (by (try simp only [ev_sum, ev_nv_cat]); first | done | rfl) ?_
          intro x16 s15 hx16
          show ev_w _ _ _ _ _ [.int (Int32.ofInt x16)] _ _ _ _
          refine ev_r_istore_n (pc := 89) (k := 2) (by decide +kernel) (by decide +kernel) rfl ?_
          refine ev_r_goto (pc := 90) (o := 210) (t := 300) (by decide +kernel) (by decide +kernel) ?_
          exact ev_r_return (pc := 300) (x := ()) trivial (by decide +kernel) (by decide +kernel) rfl
        · intro K86 hK86
          refine ev_r_icmp (pc := 77) (q := .ne) (o := 7) (t := 84) (c := x2 ≠ 98) (by decide +kernel) (ev_k_ne hx2 (by decide)) (by decide +kernel) ?_ ?_
          · intro c17
            refine ev_r_bipush (pc := 84) (k := 6) (by decide +kernel) (by decide +kernel) ?_
            exact hK86 6 (by decide) s11 _ 
          · intro c17
            refine ev_r_iconst (pc := 80) (k := 5) (by decide +kernel) ?_
            refine ev_r_goto (pc := 81) (o := 5) (t := 86) (by decide +kernel) (by decide +kernel) ?_
            exact hK86 5 (by decide) s11 _ 
      · intro K73 hK73
        refine ev_r_icmp (pc := 64) (q := .eq) (o := 9) (t := 73) (c := x2 = 98) (by decide +kernel) (ev_k_eq hx2 (by decide)) (by decide +kernel) ?_ ?_
        · intro c18
          exact hK73  s4 _ (by exact (ev_lk_st1 (by rfl) (by decide) rfl)) (by exact ev_lk_st1_self)
        · intro c18
          refine ev_r_iload_n (pc := 67) (k := 1) (v := Int32.ofInt x2) (by decide +kernel) (by exact ev_lk_st1_self) ?_
          refine ev_r_bipush (pc := 68) (k := 66) (by decide +kernel) (by decide +kernel) ?_
          refine ev_r_icmp (pc := 70) (q := .ne) (o := 23) (t := 93) (c := x2 ≠ 66) (by decide +kernel) (ev_k_ne hx2 (by decide)) (by decide +kernel) ?_ ?_
          · intro c19
            refine ev_r_iload_n (pc := 93) (k := 1) (v := Int32.ofInt x2) (by decide +kernel) (by exact ev_lk_st1_self) ?_
            refine ev_r_bipush (pc := 94) (k := 65) (by decide +kernel) (by decide +kernel) ?_
            refine ev_r_jn (Q := fun K => ∀ (s23 : ev_St) (w20 : List (Nat × Value)), ev_lk w20 0 = some (.ref 621) → ev_lk w20 1 = some (.int (Int32.ofInt x2)) → ev_w none (ev_Mof 256) d 105 w20 [] s23 (K  s23) ev_eU ev_PU) ?_ ?_
            · intro  s23 w20 e21 e22
              refine ev_r_aload_n (pc := 105) (k := 0) (v := .ref 621) trivial (by decide +kernel) (by exact e21) ?_
              refine ev_r_iload_n (pc := 106) (k := 1) (v := Int32.ofInt x2) (by decide +kernel) (by exact e22) ?_
              refine ev_r_bipush (pc := 107) (k := 65) (by decide +kernel) (by decide +kernel) ?_
              refine ev_r_jn (Q := fun K => ∀ (x24 : Int) (hx24 : ev_rng x24), ∀ (s26 : ev_St) (w25 : List (Nat × Value)), ev_w none (ev_Mof 256) d 117 w25 [.int (Int32.ofInt x24), .ref 621] s26 (K x24 s26) ev_eU ev_PU) ?_ ?_
              · intro x24 hx24 s26 w25 
                refine ev_r_virt (pc := 117) (y := 378) (mi := 237) (na := 1) (k := 621) (as := [.int (Int32.ofInt x24)]) (rest := []) (encc := ev_oI) (Q := ev_rng) (fun x S1 h => jt_237 d (by omega) Q x24 hx24 s26 x S1 h) (by exact ev_ob_621) (by decide +kernel) (by decide +kernel) (by decide +kernel) (by decide +kernel) rfl (by (try simp only [ev_sum, ev_nv_cat]); first | done | rfl) ?_
                intro x28 s27 hx28
                show ev_w _ _ _ _ _ [.int (Int32.ofInt x28)] _ _ _ _
                refine ev_r_istore_n (pc := 120) (k := 2) (by decide +kernel) (by decide +kernel) rfl ?_
                refine ev_r_goto (pc := 121) (o := 179) (t := 300) (by decide +kernel) (by decide +kernel) ?_
                exact ev_r_return (pc := 300) (x := ()) trivial (by decide +kernel) (by decide +kernel) rfl
              · intro K117 hK117
                refine ev_r_icmp (pc := 109) (q := .ne) (o := 7) (t := 116) (c := x2 ≠ 65) (by decide +kernel) (ev_k_ne hx2 (by decide)) (by decide +kernel) ?_ ?_
                · intro c29
                  refine ev_r_iconst (pc := 116) (k := 4) (by decide +kernel) ?_
                  exact hK117 4 (by decide) s23 _ 
                · intro c29
                  refine ev_r_iconst (pc := 112) (k := 3) (by decide +kernel) ?_
                  refine ev_r_goto (pc := 113) (o := 4) (t := 117) (by decide +kernel) (by decide +kernel) ?_
                  exact hK117 3 (by decide) s23 _ 
            · intro K105 hK105
              refine ev_r_icmp (pc := 96) (q := .eq) (o := 9) (t := 105) (c := x2 = 65) (by decide +kernel) (ev_k_eq hx2 (by decide)) (by decide +kernel) ?_ ?_
              · intro c30
                exact hK105  s4 _ (by exact (ev_lk_st1 (by rfl) (by decide) rfl)) (by exact ev_lk_st1_self)
              · intro c30
                refine ev_r_iload_n (pc := 99) (k := 1) (v := Int32.ofInt x2) (by decide +kernel) (by exact ev_lk_st1_self) ?_
                refine ev_r_bipush (pc := 100) (k := 122) (by decide +kernel) (by decide +kernel) ?_
                refine ev_r_icmp (pc := 102) (q := .ne) (o := 22) (t := 124) (c := x2 ≠ 122) (by decide +kernel) (ev_k_ne hx2 (by decide)) (by decide +kernel) ?_ ?_
                · intro c31
                  refine ev_r_iload_n (pc := 124) (k := 1) (v := Int32.ofInt x2) (by decide +kernel) (by exact ev_lk_st1_self) ?_
                  refine ev_r_bipush (pc := 125) (k := 49) (by decide +kernel) (by decide +kernel) ?_
                  refine ev_r_bipush (pc := 127) (k := 57) (by decide +kernel) (by decide +kernel) ?_
                  refine ev_r_stat (pc := 129) (y := 325) (kind := 2) (mi := 222) (na := 3) (as := [.int (Int32.ofInt x2), .int (Int32.ofInt 49), .int (Int32.ofInt 57)]) (rest := []) (encc := ev_oI) (Q := ev_bl) (fun x S1 h => jt_222 d (by omega) Q x2 49 57 hx2 (by decide) (by decide) s4 x S1 h) (Or.inl rfl) (by decide +kernel) (by decide +kernel) (by decide +kernel) (by decide +kernel) rfl (by (try simp only [ev_sum, ev_nv_cat]); first | done | rfl) ?_
                  intro x33 s32 hx33
                  replace hx33 := ev_bl_rng hx33
                  show ev_w _ _ _ _ _ [.int (Int32.ofInt x33)] _ _ _ _
                  refine ev_r_if (pc := 132) (q := .eq) (o := 40) (t := 172) (c := x33 = 0) (by decide +kernel) (ev_k_eq hx33 ev_rng0) (by decide +kernel) ?_ ?_
                  · intro c34
                    refine ev_r_iload_n (pc := 172) (k := 1) (v := Int32.ofInt x2) (by decide +kernel) (by exact ev_lk_st1_self) ?_
                    refine ev_r_bipush (pc := 173) (k := 107) (by decide +kernel) (by decide +kernel) ?_
                    refine ev_r_icmp (pc := 175) (q := .ne) (o := 98) (t := 273) (c := x2 ≠ 107) (by decide +kernel) (ev_k_ne hx2 (by decide)) (by decide +kernel) ?_ ?_
                    · intro c35
                      refine ev_r_iload_n (pc := 273) (k := 1) (v := Int32.ofInt x2) (by decide +kernel) (by exact ev_lk_st1_self) ?_
                      refine ev_r_stat (pc := 274) (y := 412) (kind := 2) (mi := 228) (na := 1) (as := [.int (Int32.ofInt x2)]) (rest := []) (encc := ev_oI) (Q := ev_bl) (fun x S1 h => jt_228 d (by omega) Q x2 hx2 s32 x S1 h) (Or.inl rfl) (by decide +kernel) (by decide +kernel) (by decide +kernel) (by decide +kernel) rfl (by (try simp only [ev_sum, ev_nv_cat]); first | done | rfl) ?_
                      intro x37 s36 hx37
                      replace hx37 := ev_bl_rng hx37
                      show ev_w _ _ _ _ _ [.int (Int32.ofInt x37)] _ _ _ _
                      refine ev_r_if (pc := 277) (q := .eq) (o := 18) (t := 295) (c := x37 = 0) (by decide +kernel) (ev_k_eq hx37 ev_rng0) (by decide +kernel) ?_ ?_
                      · intro c38
                        refine ev_r_aload_n (pc := 295) (k := 0) (v := .ref 621) trivial (by decide +kernel) (by exact (ev_lk_st1 (by rfl) (by decide) rfl)) ?_
                        refine ev_r_iconst (pc := 296) (k := 1) (by decide +kernel) ?_
                        refine ev_r_putI (pc := 297) (y := 352) (ci := 13) (f := 25) (by decide) (by decide +kernel) (by decide +kernel) (by exact ev_ob_621) rfl (ev_fit_bl (by decide : ev_bl 1)) ?_
                        intro s39
                        exact ev_r_return (pc := 300) (x := ()) trivial (by decide +kernel) (by decide +kernel) rfl
                      · intro c38
                        refine ev_r_aload_n (pc := 280) (k := 0) (v := .ref 621) trivial (by decide +kernel) (by exact (ev_lk_st1 (by rfl) (by decide) rfl)) ?_
                        refine ev_r_iload_n (pc := 281) (k := 1) (v := Int32.ofInt x2) (by decide +kernel) (by exact ev_lk_st1_self) ?_
                        refine ev_r_stat (pc := 282) (y := 387) (kind := 2) (mi := 242) (na := 1) (as := [.int (Int32.ofInt x2)]) (rest := [.ref 621]) (encc := ev_oL) (Q := ev_PU) (fun x S1 h => jt_242 d (by omega) Q x2 hx2 s36 x S1 h) (Or.inl rfl) (by decide +kernel) (by decide +kernel) (by decide +kernel) (by decide +kernel) rfl (by (try simp only [ev_sum, ev_nv_cat]); first | done | rfl) ?_
                        intro y41 s40 _
                        show ev_w _ _ _ _ _ [.long y41, .ref 621] _ _ _ _
                        refine ev_r_iload_n (pc := 285) (k := 1) (v := Int32.ofInt x2) (by decide +kernel) (by exact ev_lk_st1_self) ?_
                        refine ev_r_stat (pc := 286) (y := 391) (kind := 2) (mi := 243) (na := 1) (as := [.int (Int32.ofInt x2)]) (rest := [.long y41, .ref 621]) (encc := ev_oL) (Q := ev_PU) (fun x S1 h => jt_243 d (by omega) Q x2 hx2 s40 x S1 h) (Or.inl rfl) (by decide +kernel) (by decide +kernel) (by decide +kernel) (by decide +kernel) rfl (by (try simp only [ev_sum, ev_nv_cat]); first | done | rfl) ?_
                        intro y43 s42 _
                        show ev_w _ _ _ _ _ [.long y43, .long y41, .ref 621] _ _ _ _
                        refine ev_r_virt (pc := 289) (y := 449) (mi := 238) (na := 2) (k := 621) (as := [.long y41, .long y43]) (rest := []) (encc := ev_oU) (Q := ev_PU) (fun x S1 h => jt_238 d (by omega) Q y41 y43  s42 x S1 h) (by exact ev_ob_621) (by decide +kernel) (by decide +kernel) (by decide +kernel) (by decide +kernel) rfl (by (try simp only [ev_sum, ev_nv_cat]); first | done | rfl) ?_
                        intro _ s44 _
                        show ev_w _ _ _ _ _ [] _ _ _ _
                        refine ev_r_goto (pc := 292) (o := 8) (t := 300) (by decide +kernel) (by decide +kernel) ?_
                        exact ev_r_return (pc := 300) (x := ()) trivial (by decide +kernel) (by decide +kernel) rfl
                    · intro c35
                      refine ev_r_aload_n (pc := 178) (k := 0) (v := .ref 621) trivial (by decide +kernel) (by exact (ev_lk_st1 (by rfl) (by decide) rfl)) ?_
                      refine ev_r_aload_n (pc := 179) (k := 0) (v := .ref 621) trivial (by decide +kernel) (by exact (ev_lk_st1 (by rfl) (by decide) rfl)) ?_
                      refine ev_r_getI (pc := 180) (y := 352) (ci := 13) (f := 25) (fin := 0) (by decide +kernel) (by decide +kernel) (by exact ev_ob_621) rfl ?_
                      intro x45 hx45
                      refine ev_r_jn (Q := fun K => ∀ (x46 : Int) (hx46 : ev_rng x46), ∀ (s49 : ev_St) (w47 : List (Nat × Value)), ev_lk w47 0 = some (.ref 621) → ev_w none (ev_Mof 256) d 222 w47 [.int (Int32.ofInt x46), .ref 621] s49 (K x46 s49) ev_eU ev_PU) ?_ ?_
                      · intro x46 hx46 s49 w47 e48
                        refine ev_r_chk ?_
                        intro c51
                        refine ev_r_putI (pc := 222) (y := 352) (ci := 13) (f := 25) hx46 (by decide +kernel) (by decide +kernel) (by exact ev_ob_621) rfl (ev_fit_bl c51) ?_
                        intro s50
                        refine ev_r_aload_n (pc := 225) (k := 0) (v := .ref 621) trivial (by decide +kernel) (by exact e48) ?_
                        refine ev_r_virt (pc := 226) (y := 356) (mi := 232) (na := 0) (k := 621) (as := []) (rest := []) (encc := ev_oI) (Q := ev_rng) (fun x S1 h => jt_232 d (by omega) Q   s50 x S1 h) (by exact ev_ob_621) (by decide +kernel) (by decide +kernel) (by decide +kernel) (by decide +kernel) rfl (by (try simp only [ev_sum, ev_nv_cat]); first | done | rfl) ?_
                        intro x53 s52 hx53
                        show ev_w _ _ _ _ _ [.int (Int32.ofInt x53)] _ _ _ _
                        refine ev_r_aload_n (pc := 229) (k := 0) (v := .ref 621) trivial (by decide +kernel) (by exact e48) ?_
                        refine ev_r_bipush (pc := 230) (k := 7) (by decide +kernel) (by decide +kernel) ?_
                        refine ev_r_virt (pc := 232) (y := 378) (mi := 237) (na := 1) (k := 621) (as := [.int (Int32.ofInt 7)]) (rest := [.int (Int32.ofInt x53)]) (encc := ev_oI) (Q := ev_rng) (fun x S1 h => jt_237 d (by omega) Q 7 (by decide) s52 x S1 h) (by exact ev_ob_621) (by decide +kernel) (by decide +kernel) (by decide +kernel) (by decide +kernel) rfl (by (try simp only [ev_sum, ev_nv_cat]); first | done | rfl) ?_
                        intro x55 s54 hx55
                        show ev_w _ _ _ _ _ [.int (Int32.ofInt x55), .int (Int32.ofInt x53)] _ _ _ _
                        refine ev_r_iadd (pc := 235) (by decide +kernel) ?_
                        intro x56 hx56
                        refine ev_r_istore_n (pc := 236) (k := 2) (by decide +kernel) (by decide +kernel) rfl ?_
                        refine ev_r_aload_n (pc := 237) (k := 0) (v := .ref 621) trivial (by decide +kernel) (by exact (ev_l1 e48 (by decide) (by decide))) ?_
                        refine ev_r_getC (pc := 238) (y := 28) (ci := 13) (f := 9) (fin := 1) (k' := 628) (by decide +kernel) (by decide +kernel) (by exact ev_ob_621) rfl rfl ?_
                        refine ev_r_iload_n (pc := 241) (k := 2) (v := Int32.ofInt x56) (by decide +kernel) (by exact ev_lk_st1_self) ?_
                        refine ev_r_iconst (pc := 242) (k := -1) (by decide +kernel) ?_
                        refine ev_r_aload_n (pc := 243) (k := 0) (v := .ref 621) trivial (by decide +kernel) (by exact (ev_l1 e48 (by decide) (by decide))) ?_
                        refine ev_r_iconst (pc := 244) (k := 1) (by decide +kernel) ?_
                        refine ev_r_virt (pc := 245) (y := 409) (mi := 233) (na := 1) (k := 621) (as := [.int (Int32.ofInt 1)]) (rest := [.int (Int32.ofInt ((-1))), .int (Int32.ofInt x56), .ref 628]) (encc := ev_oI) (Q := ev_rng) (fun x S1 h => jt_233 d (by omega) Q 1 (by decide) s54 x S1 h) (by exact ev_ob_621) (by decide +kernel) (by decide +kernel) (by decide +kernel) (by decide +kernel) rfl (by (try simp only [ev_sum, ev_nv_cat]); first | done | rfl) ?_
                        intro x58 s57 hx58
                        show ev_w _ _ _ _ _ [.int (Int32.ofInt x58), .int (Int32.ofInt ((-1))), .int (Int32.ofInt x56), .ref 628] _ _ _ _
                        refine ev_r_bipush (pc := 248) (k := 97) (by decide +kernel) (by decide +kernel) ?_
                        refine ev_r_isub (pc := 250) (by decide +kernel) ?_
                        intro x59 hx59
                        refine ev_r_isub (pc := 251) (by decide +kernel) ?_
                        intro x60 hx60
                        refine ev_r_iast (pc := 252) hx60 hx56 (by decide +kernel) (by exact ev_ab_628) ?_
                        intro s61
                        refine ev_r_aload_n (pc := 253) (k := 0) (v := .ref 621) trivial (by decide +kernel) (by exact (ev_l1 e48 (by decide) (by decide))) ?_
                        refine ev_r_getC (pc := 254) (y := 31) (ci := 13) (f := 10) (fin := 1) (k' := 629) (by decide +kernel) (by decide +kernel) (by exact ev_ob_621) rfl rfl ?_
                        refine ev_r_iload_n (pc := 257) (k := 2) (v := Int32.ofInt x56) (by decide +kernel) (by exact ev_lk_st1_self) ?_
                        refine ev_r_aload_n (pc := 258) (k := 0) (v := .ref 621) trivial (by decide +kernel) (by exact (ev_l1 e48 (by decide) (by decide))) ?_
                        refine ev_r_getI (pc := 259) (y := 384) (ci := 13) (f := 40) (fin := 0) (by decide +kernel) (by decide +kernel) (by exact ev_ob_621) rfl ?_
                        intro x62 hx62
                        refine ev_r_iconst (pc := 262) (k := 1) (by decide +kernel) ?_
                        refine ev_r_iand (pc := 263) (by decide +kernel) ?_
                        intro x63 hx63
                        refine ev_r_iast (pc := 264) hx63 hx56 (by decide +kernel) (by exact ev_ab_629) ?_
                        intro s64
                        refine ev_r_aload_n (pc := 265) (k := 0) (v := .ref 621) trivial (by decide +kernel) (by exact (ev_l1 e48 (by decide) (by decide))) ?_
                        refine ev_r_iconst (pc := 266) (k := 3) (by decide +kernel) ?_
                        refine ev_r_virt (pc := 267) (y := 415) (mi := 234) (na := 1) (k := 621) (as := [.int (Int32.ofInt 3)]) (rest := []) (encc := ev_oU) (Q := ev_PU) (fun x S1 h => jt_234 d (by omega) Q 3 (by decide) s64 x S1 h) (by exact ev_ob_621) (by decide +kernel) (by decide +kernel) (by decide +kernel) (by decide +kernel) rfl (by (try simp only [ev_sum, ev_nv_cat]); first | done | rfl) ?_
                        intro _ s65 _
                        show ev_w _ _ _ _ _ [] _ _ _ _
                        refine ev_r_goto (pc := 270) (o := 30) (t := 300) (by decide +kernel) (by decide +kernel) ?_
                        exact ev_r_return (pc := 300) (x := ()) trivial (by decide +kernel) (by decide +kernel) rfl
                      · intro K222 hK222
                        refine ev_r_jn (Q := fun K => ∀ (s68 : ev_St) (w66 : List (Nat × Value)), ev_lk w66 0 = some (.ref 621) → ev_w none (ev_Mof 256) d 217 w66 [.ref 621] s68 (K  s68) ev_eU ev_PU) ?_ ?_
                        · intro  s68 w66 e67
                          refine ev_r_iconst (pc := 217) (k := 1) (by decide +kernel) ?_
                          refine ev_r_goto (pc := 218) (o := 4) (t := 222) (by decide +kernel) (by decide +kernel) ?_
                          exact hK222 1 (by decide) s68 _ (by exact e67)
                        · intro K217 hK217
                          refine ev_r_if (pc := 183) (q := .ne) (o := 34) (t := 217) (c := x45 ≠ 0) (by decide +kernel) (ev_k_ne hx45 ev_rng0) (by decide +kernel) ?_ ?_
                          · intro c69
                            exact hK217  s32 _ (by exact (ev_lk_st1 (by rfl) (by decide) rfl))
                          · intro c69
                            refine ev_r_aload_n (pc := 186) (k := 0) (v := .ref 621) trivial (by decide +kernel) (by exact (ev_lk_st1 (by rfl) (by decide) rfl)) ?_
                            refine ev_r_iconst (pc := 187) (k := 0) (by decide +kernel) ?_
                            refine ev_r_virt (pc := 188) (y := 409) (mi := 233) (na := 1) (k := 621) (as := [.int (Int32.ofInt 0)]) (rest := [.ref 621]) (encc := ev_oI) (Q := ev_rng) (fun x S1 h => jt_233 d (by omega) Q 0 (by decide) s32 x S1 h) (by exact ev_ob_621) (by decide +kernel) (by decide +kernel) (by decide +kernel) (by decide +kernel) rfl (by (try simp only [ev_sum, ev_nv_cat]); first | done | rfl) ?_
                            intro x71 s70 hx71
                            show ev_w _ _ _ _ _ [.int (Int32.ofInt x71), .ref 621] _ _ _ _
                            refine ev_r_bipush (pc := 191) (k := 60) (by decide +kernel) (by decide +kernel) ?_
                            refine ev_r_icmp (pc := 193) (q := .ne) (o := 24) (t := 217) (c := x71 ≠ 60) (by decide +kernel) (ev_k_ne hx71 (by decide)) (by decide +kernel) ?_ ?_
                            · intro c72
                              exact hK217  s70 _ (by exact (ev_lk_st1 (by rfl) (by decide) rfl))
                            · intro c72
                              refine ev_r_aload_n (pc := 196) (k := 0) (v := .ref 621) trivial (by decide +kernel) (by exact (ev_lk_st1 (by rfl) (by decide) rfl)) ?_
                              refine ev_r_iconst (pc := 197) (k := 1) (by decide +kernel) ?_
                              refine ev_r_virt (pc := 198) (y := 409) (mi := 233) (na := 1) (k := 621) (as := [.int (Int32.ofInt 1)]) (rest := [.ref 621]) (encc := ev_oI) (Q := ev_rng) (fun x S1 h => jt_233 d (by omega) Q 1 (by decide) s70 x S1 h) (by exact ev_ob_621) (by decide +kernel) (by decide +kernel) (by decide +kernel) (by decide +kernel) rfl (by (try simp only [ev_sum, ev_nv_cat]); first | done | rfl) ?_
                              intro x74 s73 hx74
                              show ev_w _ _ _ _ _ [.int (Int32.ofInt x74), .ref 621] _ _ _ _
                              refine ev_r_stat (pc := 201) (y := 329) (kind := 2) (mi := 224) (na := 1) (as := [.int (Int32.ofInt x74)]) (rest := [.ref 621]) (encc := ev_oI) (Q := ev_bl) (fun x S1 h => jt_224 d (by omega) Q x74 hx74 s73 x S1 h) (Or.inl rfl) (by decide +kernel) (by decide +kernel) (by decide +kernel) (by decide +kernel) rfl (by (try simp only [ev_sum, ev_nv_cat]); first | done | rfl) ?_
                              intro x76 s75 hx76
                              replace hx76 := ev_bl_rng hx76
                              show ev_w _ _ _ _ _ [.int (Int32.ofInt x76), .ref 621] _ _ _ _
                              refine ev_r_if (pc := 204) (q := .eq) (o := 13) (t := 217) (c := x76 = 0) (by decide +kernel) (ev_k_eq hx76 ev_rng0) (by decide +kernel) ?_ ?_
                              · intro c77
                                exact hK217  s75 _ (by exact (ev_lk_st1 (by rfl) (by decide) rfl))
                              · intro c77
                                refine ev_r_aload_n (pc := 207) (k := 0) (v := .ref 621) trivial (by decide +kernel) (by exact (ev_lk_st1 (by rfl) (by decide) rfl)) ?_
                                refine ev_r_iconst (pc := 208) (k := 2) (by decide +kernel) ?_
                                refine ev_r_virt (pc := 209) (y := 409) (mi := 233) (na := 1) (k := 621) (as := [.int (Int32.ofInt 2)]) (rest := [.ref 621]) (encc := ev_oI) (Q := ev_rng) (fun x S1 h => jt_233 d (by omega) Q 2 (by decide) s75 x S1 h) (by exact ev_ob_621) (by decide +kernel) (by decide +kernel) (by decide +kernel) (by decide +kernel) rfl (by (try simp only [ev_sum, ev_nv_cat]); first | done | rfl) ?_
                                intro x79 s78 hx79
                                show ev_w _ _ _ _ _ [.int (Int32.ofInt x79), .ref 621] _ _ _ _
                                refine ev_r_bipush (pc := 212) (k := 62) (by decide +kernel) (by decide +kernel) ?_
                                refine ev_r_icmp (pc := 214) (q := .eq) (o := 7) (t := 221) (c := x79 = 62) (by decide +kernel) (ev_k_eq hx79 (by decide)) (by decide +kernel) ?_ ?_
                                · intro c80
                                  refine ev_r_iconst (pc := 221) (k := 0) (by decide +kernel) ?_
                                  exact hK222 0 (by decide) s78 _ (by exact (ev_lk_st1 (by rfl) (by decide) rfl))
                                · intro c80
                                  exact hK217  s78 _ (by exact (ev_lk_st1 (by rfl) (by decide) rfl))
                  · intro c34
                    refine ev_r_aload_n (pc := 135) (k := 0) (v := .ref 621) trivial (by decide +kernel) (by exact (ev_lk_st1 (by rfl) (by decide) rfl)) ?_
                    refine ev_r_virt (pc := 136) (y := 356) (mi := 232) (na := 0) (k := 621) (as := []) (rest := []) (encc := ev_oI) (Q := ev_rng) (fun x S1 h => jt_232 d (by omega) Q   s32 x S1 h) (by exact ev_ob_621) (by decide +kernel) (by decide +kernel) (by decide +kernel) (by decide +kernel) rfl (by (try simp only [ev_sum, ev_nv_cat]); first | done | rfl) ?_
                    intro x82 s81 hx82
                    show ev_w _ _ _ _ _ [.int (Int32.ofInt x82)] _ _ _ _
                    refine ev_r_aload_n (pc := 139) (k := 0) (v := .ref 621) trivial (by decide +kernel) (by exact (ev_lk_st1 (by rfl) (by decide) rfl)) ?_
                    refine ev_r_bipush (pc := 140) (k := 7) (by decide +kernel) (by decide +kernel) ?_
                    refine ev_r_virt (pc := 142) (y := 378) (mi := 237) (na := 1) (k := 621) (as := [.int (Int32.ofInt 7)]) (rest := [.int (Int32.ofInt x82)]) (encc := ev_oI) (Q := ev_rng) (fun x S1 h => jt_237 d (by omega) Q 7 (by decide) s81 x S1 h) (by exact ev_ob_621) (by decide +kernel) (by decide +kernel) (by decide +kernel) (by decide +kernel) rfl (by (try simp only [ev_sum, ev_nv_cat]); first | done | rfl) ?_
                    intro x84 s83 hx84
                    show ev_w _ _ _ _ _ [.int (Int32.ofInt x84), .int (Int32.ofInt x82)] _ _ _ _
                    refine ev_r_iadd (pc := 145) (by decide +kernel) ?_
                    intro x85 hx85
                    refine ev_r_istore_n (pc := 146) (k := 2) (by decide +kernel) (by decide +kernel) rfl ?_
                    refine ev_r_aload_n (pc := 147) (k := 0) (v := .ref 621) trivial (by decide +kernel) (by exact (ev_l1 (ev_lk_st1 (by rfl) (by decide) rfl) (by decide) (by decide))) ?_
                    refine ev_r_getC (pc := 148) (y := 28) (ci := 13) (f := 9) (fin := 1) (k' := 628) (by decide +kernel) (by decide +kernel) (by exact ev_ob_621) rfl rfl ?_
                    refine ev_r_iload_n (pc := 151) (k := 2) (v := Int32.ofInt x85) (by decide +kernel) (by exact ev_lk_st1_self) ?_
                    refine ev_r_iload_n (pc := 152) (k := 1) (v := Int32.ofInt x2) (by decide +kernel) (by exact (ev_lk_st1 ev_lk_st1_self (by decide) rfl)) ?_
                    refine ev_r_bipush (pc := 153) (k := 48) (by decide +kernel) (by decide +kernel) ?_
                    refine ev_r_isub (pc := 155) (by decide +kernel) ?_
                    intro x86 hx86
                    refine ev_r_iast (pc := 156) hx86 hx85 (by decide +kernel) (by exact ev_ab_628) ?_
                    intro s87
                    refine ev_r_aload_n (pc := 157) (k := 0) (v := .ref 621) trivial (by decide +kernel) (by exact (ev_l1 (ev_lk_st1 (by rfl) (by decide) rfl) (by decide) (by decide))) ?_
                    refine ev_r_getC (pc := 158) (y := 31) (ci := 13) (f := 10) (fin := 1) (k' := 629) (by decide +kernel) (by decide +kernel) (by exact ev_ob_621) rfl rfl ?_
                    refine ev_r_iload_n (pc := 161) (k := 2) (v := Int32.ofInt x85) (by decide +kernel) (by exact ev_lk_st1_self) ?_
                    refine ev_r_aload_n (pc := 162) (k := 0) (v := .ref 621) trivial (by decide +kernel) (by exact (ev_l1 (ev_lk_st1 (by rfl) (by decide) rfl) (by decide) (by decide))) ?_
                    refine ev_r_getI (pc := 163) (y := 384) (ci := 13) (f := 40) (fin := 0) (by decide +kernel) (by decide +kernel) (by exact ev_ob_621) rfl ?_
                    intro x88 hx88
                    refine ev_r_iconst (pc := 166) (k := 1) (by decide +kernel) ?_
                    refine ev_r_iand (pc := 167) (by decide +kernel) ?_
                    intro x89 hx89
                    refine ev_r_iast (pc := 168) hx89 hx85 (by decide +kernel) (by exact ev_ab_629) ?_
                    intro s90
                    refine ev_r_goto (pc := 169) (o := 131) (t := 300) (by decide +kernel) (by decide +kernel) ?_
                    exact ev_r_return (pc := 300) (x := ()) trivial (by decide +kernel) (by decide +kernel) rfl
                · intro c31
                  exact hK105  s4 _ (by exact (ev_lk_st1 (by rfl) (by decide) rfl)) (by exact ev_lk_st1_self)
          · intro c19
            exact hK73  s4 _ (by exact (ev_lk_st1 (by rfl) (by decide) rfl)) (by exact ev_lk_st1_self)
    · intro c7
      refine ev_r_aload_n (pc := 44) (k := 0) (v := .ref 621) trivial (by decide +kernel) (by exact (ev_lk_st1 (by rfl) (by decide) rfl)) ?_
      refine ev_r_bipush (pc := 45) (k := 10) (by decide +kernel) (by decide +kernel) ?_
      refine ev_r_stat (pc := 47) (y := 387) (kind := 2) (mi := 242) (na := 1) (as := [.int (Int32.ofInt 10)]) (rest := [.ref 621]) (encc := ev_oL) (Q := ev_PU) (fun x S1 h => jt_242 d (by omega) Q 10 (by decide) s4 x S1 h) (Or.inl rfl) (by decide +kernel) (by decide +kernel) (by decide +kernel) (by decide +kernel) rfl (by (try simp only [ev_sum, ev_nv_cat]); first | done | rfl) ?_
      intro y92 s91 _
      show ev_w _ _ _ _ _ [.long y92, .ref 621] _ _ _ _
      refine ev_r_bipush (pc := 50) (k := 10) (by decide +kernel) (by decide +kernel) ?_
      refine ev_r_stat (pc := 52) (y := 391) (kind := 2) (mi := 243) (na := 1) (as := [.int (Int32.ofInt 10)]) (rest := [.long y92, .ref 621]) (encc := ev_oL) (Q := ev_PU) (fun x S1 h => jt_243 d (by omega) Q 10 (by decide) s91 x S1 h) (Or.inl rfl) (by decide +kernel) (by decide +kernel) (by decide +kernel) (by decide +kernel) rfl (by (try simp only [ev_sum, ev_nv_cat]); first | done | rfl) ?_
      intro y94 s93 _
      show ev_w _ _ _ _ _ [.long y94, .long y92, .ref 621] _ _ _ _
      refine ev_r_virt (pc := 55) (y := 449) (mi := 238) (na := 2) (k := 621) (as := [.long y92, .long y94]) (rest := []) (encc := ev_oU) (Q := ev_PU) (fun x S1 h => jt_238 d (by omega) Q y92 y94  s93 x S1 h) (by exact ev_ob_621) (by decide +kernel) (by decide +kernel) (by decide +kernel) (by decide +kernel) rfl (by (try simp only [ev_sum, ev_nv_cat]); first | done | rfl) ?_
      intro _ s95 _
      show ev_w _ _ _ _ _ [] _ _ _ _
      refine ev_r_goto (pc := 58) (o := 242) (t := 300) (by decide +kernel) (by decide +kernel) ?_
      exact ev_r_return (pc := 300) (x := ()) trivial (by decide +kernel) (by decide +kernel) rfl
  · intro c6
    refine ev_r_aload_n (pc := 18) (k := 0) (v := .ref 621) trivial (by decide +kernel) (by exact (ev_lk_st1 (by rfl) (by decide) rfl)) ?_
    refine ev_r_iload_n (pc := 19) (k := 1) (v := Int32.ofInt x2) (by decide +kernel) (by exact ev_lk_st1_self) ?_
    refine ev_r_virt (pc := 20) (y := 436) (mi := 246) (na := 1) (k := 621) (as := [.int (Int32.ofInt x2)]) (rest := []) (encc := ev_oU) (Q := ev_PU) (fun x S1 h => jt_246 d (by omega) Q x2 hx2 s4 x S1 h) (by exact ev_ob_621) (by decide +kernel) (by decide +kernel) (by decide +kernel) (by decide +kernel) rfl (by (try simp only [ev_sum, ev_nv_cat]); first | done | rfl) ?_
    intro _ s96 _
    show ev_w _ _ _ _ _ [] _ _ _ _
    refine ev_r_aload_n (pc := 23) (k := 0) (v := .ref 621) trivial (by decide +kernel) (by exact (ev_lk_st1 (by rfl) (by decide) rfl)) ?_
    refine ev_r_aload_n (pc := 24) (k := 0) (v := .ref 621) trivial (by decide +kernel) (by exact (ev_lk_st1 (by rfl) (by decide) rfl)) ?_
    refine ev_r_getL (pc := 25) (y := 394) (ci := 13) (f := 41) (fin := 0) (by decide +kernel) (by decide +kernel) (by exact ev_ob_621) rfl ?_
    intro y97
    refine ev_r_aload_n (pc := 28) (k := 0) (v := .ref 621) trivial (by decide +kernel) (by exact (ev_lk_st1 (by rfl) (by decide) rfl)) ?_
    refine ev_r_getL (pc := 29) (y := 398) (ci := 13) (f := 42) (fin := 0) (by decide +kernel) (by decide +kernel) (by exact ev_ob_621) rfl ?_
    intro y98
    refine ev_r_virt (pc := 32) (y := 449) (mi := 238) (na := 2) (k := 621) (as := [.long y97, .long y98]) (rest := []) (encc := ev_oU) (Q := ev_PU) (fun x S1 h => jt_238 d (by omega) Q y97 y98  s96 x S1 h) (by exact ev_ob_621) (by decide +kernel) (by decide +kernel) (by decide +kernel) (by decide +kernel) rfl (by (try simp only [ev_sum, ev_nv_cat]); first | done | rfl) ?_
    intro _ s99 _
    show ev_w _ _ _ _ _ [] _ _ _ _
    refine ev_r_goto (pc := 35) (o := 265) (t := 300) (by decide +kernel) (by decide +kernel) ?_
    exact ev_r_return (pc := 300) (x := ()) trivial (by decide +kernel) (by decide +kernel) rfl
def jb_257_8 (Q : Nat)   (K8 : Int → Int → ev_St → Option ((Int) × ev_St)) (x3 : Int) (x4 : Int) (s9 : ev_St) : Option ((Int) × ev_St) := ev_jn (fun  (s14 : ev_St) => ev_jn (fun (x16 : Int) (x15 : Int) (s19 : ev_St) => ev_b (ev_ior x15 x16) fun x20 => ev_bd (jm_234 Q 1 s19) fun _ s21 => ev_bd (jm_233 Q 0 s21) fun x23 s22 => K8 x20 x23 s22) fun K48 => if x4 ≠ 105 then (if x4 ≠ 115 then (K48 4 x3 s14) else (K48 2 x3 s14)) else (K48 1 x3 s14)) fun K26 => if x4 = 105 then (K26  s9) else (if x4 = 115 then (K26  s9) else (if x4 ≠ 109 then (some (x3, s9)) else (K26  s9)))
def jl_257_8 (Q : Nat)   : Nat → Int → Int → ev_St → Option ((Int) × ev_St)
  | 0 => fun _ _ _ => none
  | q + 1 => jb_257_8 Q   (jl_257_8 Q   q)
theorem jbt_257_8 (d : Nat) (hd : 2 ≤ d + 1) (Q : Nat)     (K8 : Int → Int → ev_St → Option ((Int) × ev_St)) (hK8 : ∀ (x3 : Int) (hx3 : ev_rng x3), ∀ (x4 : Int) (hx4 : ev_rng x4), ∀ (s9 : ev_St) (w5 : List (Nat × Value)), ev_lk w5 0 = some (.ref 621) → ev_lk w5 1 = some (.int (Int32.ofInt x3)) → ev_lk w5 2 = some (.int (Int32.ofInt x4)) → ev_w none (ev_Mof 257) d 8 w5 [] s9 (K8 x3 x4 s9) ev_eI ev_rng) : ∀ (x3 : Int) (hx3 : ev_rng x3), ∀ (x4 : Int) (hx4 : ev_rng x4), ∀ (s9 : ev_St) (w5 : List (Nat × Value)), ev_lk w5 0 = some (.ref 621) → ev_lk w5 1 = some (.int (Int32.ofInt x3)) → ev_lk w5 2 = some (.int (Int32.ofInt x4)) → ev_w none (ev_Mof 257) d 8 w5 [] s9 (jb_257_8 Q   K8 x3 x4 s9) ev_eI ev_rng := by
  intro x3 hx3 x4 hx4 s9 w5 e6 e7 e8
  unfold jb_257_8
  refine ev_r_iload_n (pc := 8) (k := 2) (v := Int32.ofInt x4) (by decide +kernel) (by exact e8) ?_
  refine ev_r_bipush (pc := 9) (k := 105) (by decide +kernel) (by decide +kernel) ?_
  refine ev_r_jn (Q := fun K => ∀ (s14 : ev_St) (w10 : List (Nat × Value)), ev_lk w10 0 = some (.ref 621) → ev_lk w10 1 = some (.int (Int32.ofInt x3)) → ev_lk w10 2 = some (.int (Int32.ofInt x4)) → ev_w none (ev_Mof 257) d 26 w10 [] s14 (K  s14) ev_eI ev_rng) ?_ ?_
  · intro  s14 w10 e11 e12 e13
    refine ev_r_iload_n (pc := 26) (k := 1) (v := Int32.ofInt x3) (by decide +kernel) (by exact e12) ?_
    refine ev_r_iload_n (pc := 27) (k := 2) (v := Int32.ofInt x4) (by decide +kernel) (by exact e13) ?_
    refine ev_r_bipush (pc := 28) (k := 105) (by decide +kernel) (by decide +kernel) ?_
    refine ev_r_jn (Q := fun K => ∀ (x16 : Int) (hx16 : ev_rng x16), ∀ (x15 : Int) (hx15 : ev_rng x15), ∀ (s19 : ev_St) (w17 : List (Nat × Value)), ev_lk w17 0 = some (.ref 621) → ev_w none (ev_Mof 257) d 48 w17 [.int (Int32.ofInt x16), .int (Int32.ofInt x15)] s19 (K x16 x15 s19) ev_eI ev_rng) ?_ ?_
    · intro x16 hx16 x15 hx15 s19 w17 e18
      refine ev_r_ior (pc := 48) (by decide +kernel) ?_
      intro x20 hx20
      refine ev_r_istore_n (pc := 49) (k := 1) (by decide +kernel) (by decide +kernel) rfl ?_
      refine ev_r_aload_n (pc := 50) (k := 0) (v := .ref 621) trivial (by decide +kernel) (by exact (ev_lk_st1 e18 (by decide) rfl)) ?_
      refine ev_r_iconst (pc := 51) (k := 1) (by decide +kernel) ?_
      refine ev_r_virt (pc := 52) (y := 415) (mi := 234) (na := 1) (k := 621) (as := [.int (Int32.ofInt 1)]) (rest := []) (encc := ev_oU) (Q := ev_PU) (fun x S1 h => jt_234 d (by omega) Q 1 (by decide) s19 x S1 h) (by exact ev_ob_621) (by decide +kernel) (by decide +kernel) (by decide +kernel) (by decide +kernel) rfl (by (try simp only [ev_sum, ev_nv_cat]); first | done | rfl) ?_
      intro _ s21 _
      show ev_w _ _ _ _ _ [] _ _ _ _
      refine ev_r_aload_n (pc := 55) (k := 0) (v := .ref 621) trivial (by decide +kernel) (by exact (ev_lk_st1 e18 (by decide) rfl)) ?_
      refine ev_r_iconst (pc := 56) (k := 0) (by decide +kernel) ?_
      refine ev_r_virt (pc := 57) (y := 409) (mi := 233) (na := 1) (k := 621) (as := [.int (Int32.ofInt 0)]) (rest := []) (encc := ev_oI) (Q := ev_rng) (fun x S1 h => jt_233 d (by omega) Q 0 (by decide) s21 x S1 h) (by exact ev_ob_621) (by decide +kernel) (by decide +kernel) (by decide +kernel) (by decide +kernel) rfl (by (try simp only [ev_sum, ev_nv_cat]); first | done | rfl) ?_
      intro x23 s22 hx23
      show ev_w _ _ _ _ _ [.int (Int32.ofInt x23)] _ _ _ _
      refine ev_r_istore_n (pc := 60) (k := 2) (by decide +kernel) (by decide +kernel) rfl ?_
      refine ev_r_goto (pc := 61) (o := (-53)) (t := 8) (by decide +kernel) (by decide +kernel) ?_
      exact hK8 x20 hx20 x23 hx23 s22 _ (by exact (ev_l1 (ev_lk_st1 e18 (by decide) rfl) (by decide) (by decide))) (by exact (ev_lk_st1 ev_lk_st1_self (by decide) rfl)) (by exact ev_lk_st1_self)
    · intro K48 hK48
      refine ev_r_icmp (pc := 30) (q := .ne) (o := 7) (t := 37) (c := x4 ≠ 105) (by decide +kernel) (ev_k_ne hx4 (by decide)) (by decide +kernel) ?_ ?_
      · intro c24
        refine ev_r_iload_n (pc := 37) (k := 2) (v := Int32.ofInt x4) (by decide +kernel) (by exact e13) ?_
        refine ev_r_bipush (pc := 38) (k := 115) (by decide +kernel) (by decide +kernel) ?_
        refine ev_r_icmp (pc := 40) (q := .ne) (o := 7) (t := 47) (c := x4 ≠ 115) (by decide +kernel) (ev_k_ne hx4 (by decide)) (by decide +kernel) ?_ ?_
        · intro c25
          refine ev_r_iconst (pc := 47) (k := 4) (by decide +kernel) ?_
          exact hK48 4 (by decide) x3 hx3 s14 _ (by exact e11)
        · intro c25
          refine ev_r_iconst (pc := 43) (k := 2) (by decide +kernel) ?_
          refine ev_r_goto (pc := 44) (o := 4) (t := 48) (by decide +kernel) (by decide +kernel) ?_
          exact hK48 2 (by decide) x3 hx3 s14 _ (by exact e11)
      · intro c24
        refine ev_r_iconst (pc := 33) (k := 1) (by decide +kernel) ?_
        refine ev_r_goto (pc := 34) (o := 14) (t := 48) (by decide +kernel) (by decide +kernel) ?_
        exact hK48 1 (by decide) x3 hx3 s14 _ (by exact e11)
  · intro K26 hK26
    refine ev_r_icmp (pc := 11) (q := .eq) (o := 15) (t := 26) (c := x4 = 105) (by decide +kernel) (ev_k_eq hx4 (by decide)) (by decide +kernel) ?_ ?_
    · intro c26
      exact hK26  s9 _ (by exact e6) (by exact e7) (by exact e8)
    · intro c26
      refine ev_r_iload_n (pc := 14) (k := 2) (v := Int32.ofInt x4) (by decide +kernel) (by exact e8) ?_
      refine ev_r_bipush (pc := 15) (k := 115) (by decide +kernel) (by decide +kernel) ?_
      refine ev_r_icmp (pc := 17) (q := .eq) (o := 9) (t := 26) (c := x4 = 115) (by decide +kernel) (ev_k_eq hx4 (by decide)) (by decide +kernel) ?_ ?_
      · intro c27
        exact hK26  s9 _ (by exact e6) (by exact e7) (by exact e8)
      · intro c27
        refine ev_r_iload_n (pc := 20) (k := 2) (v := Int32.ofInt x4) (by decide +kernel) (by exact e8) ?_
        refine ev_r_bipush (pc := 21) (k := 109) (by decide +kernel) (by decide +kernel) ?_
        refine ev_r_icmp (pc := 23) (q := .ne) (o := 41) (t := 64) (c := x4 ≠ 109) (by decide +kernel) (ev_k_ne hx4 (by decide)) (by decide +kernel) ?_ ?_
        · intro c28
          refine ev_r_iload_n (pc := 64) (k := 1) (v := Int32.ofInt x3) (by decide +kernel) (by exact e7) ?_
          exact ev_r_ireturn (pc := 65) (x := x3) (v := Int32.ofInt x3) (ty := .int) hx3 (by decide +kernel) (by decide +kernel) rfl rfl
        · intro c28
          exact hK26  s9 _ (by exact e6) (by exact e7) (by exact e8)
theorem jlt_257_8 (d : Nat) (hd : 2 ≤ d + 1) (Q : Nat)     : ∀ q : Nat, ∀ (x3 : Int) (hx3 : ev_rng x3), ∀ (x4 : Int) (hx4 : ev_rng x4), ∀ (s9 : ev_St) (w5 : List (Nat × Value)), ev_lk w5 0 = some (.ref 621) → ev_lk w5 1 = some (.int (Int32.ofInt x3)) → ev_lk w5 2 = some (.int (Int32.ofInt x4)) → ev_w none (ev_Mof 257) d 8 w5 [] s9 (jl_257_8 Q   q x3 x4 s9) ev_eI ev_rng := by
  intro q
  induction q with
  | zero =>
    intro x3 hx3 x4 hx4 s9 w5 e6 e7 e8
    exact ev_w_none
  | succ q ih => exact jbt_257_8 d hd Q     _ ih
/-- MendBenchModel.lettersOf()I -/
def jm_257 (Q : Nat)  (S : ev_St) : Option ((Int) × ev_St) := ev_bd (jm_233 Q 0 S) fun x2 s1 => jl_257_8 Q   Q 0 x2 s1
theorem jt_257 (d : Nat) (hd : 2 ≤ d) (Q : Nat)   (S : ev_St) (x : Int) (S' : ev_St) (hJ : jm_257 Q  S = some (x, S')) : ev_Ref d 257 [.ref 621] S (ev_eI x) S' (ev_rng x) := by
  obtain ⟨d, rfl⟩ : ∃ e, d = e + 1 := ⟨d - 1, by omega⟩
  refine ev_ref_of (P := ev_rng) (lv := [(0, .ref 621)]) (by decide +kernel) (by (try simp only [ev_sum, ev_nv_cat]); first | done | rfl) (by (try simp only [lv_args, ev_nv_cat]); first | done | rfl) ?_ x S' hJ
  unfold jm_257
  refine ev_r_iconst (pc := 0) (k := 0) (by decide +kernel) ?_
  refine ev_r_istore_n (pc := 1) (k := 1) (by decide +kernel) (by decide +kernel) rfl ?_
  refine ev_r_aload_n (pc := 2) (k := 0) (v := .ref 621) trivial (by decide +kernel) (by exact (ev_lk_st1 (by rfl) (by decide) rfl)) ?_
  refine ev_r_iconst (pc := 3) (k := 0) (by decide +kernel) ?_
  refine ev_r_virt (pc := 4) (y := 409) (mi := 233) (na := 1) (k := 621) (as := [.int (Int32.ofInt 0)]) (rest := []) (encc := ev_oI) (Q := ev_rng) (fun x S1 h => jt_233 d (by omega) Q 0 (by decide) S x S1 h) (by exact ev_ob_621) (by decide +kernel) (by decide +kernel) (by decide +kernel) (by decide +kernel) rfl (by (try simp only [ev_sum, ev_nv_cat]); first | done | rfl) ?_
  intro x2 s1 hx2
  show ev_w _ _ _ _ _ [.int (Int32.ofInt x2)] _ _ _ _
  refine ev_r_istore_n (pc := 7) (k := 2) (by decide +kernel) (by decide +kernel) rfl ?_
  exact jlt_257_8 d hd Q     Q 0 (by decide) x2 hx2 s1 _ (by exact (ev_l1 (ev_lk_st1 (by rfl) (by decide) rfl) (by decide) (by decide))) (by exact (ev_lk_st1 ev_lk_st1_self (by decide) rfl)) (by exact ev_lk_st1_self)
/-- MendBenchModel.switches()V -/
def jm_258 (Q : Nat)  (S : ev_St) : Option ((Unit) × ev_St) := ev_bd (jm_257 Q  S) fun x2 s1 => ev_bd (jm_233 Q 0 s1) fun x4 s3 => ev_jn (fun (x5 : Int) (x6 : Int) (s11 : ev_St) => ev_b (s11.1 621 25) fun x12 => ev_jn (fun (x13 : Int) (s18 : ev_St) => ev_if (ev_bl x13) (ev_b (ev_pI s18 621 25 x13) fun s19 => ev_bd (jm_233 Q 0 s19) fun x22 s21 => ev_bd (jm_234 Q 1 s21) fun _ s23 => if x22 ≠ 41 then (if x22 ≠ 58 then (ev_b (ev_pI s23 621 25 1) fun s26 => some ((), s26)) else (ev_bd (jm_237 Q 9 s23) fun x28 s27 => ev_bd (jm_239 Q x28 0 s27) fun _ s29 => ev_b (s29.1 621 40) fun x30 => ev_b (ev_ior x30 x5) fun x31 => ev_b (ev_ixor x6 ((-1))) fun x32 => ev_b (ev_iand x31 x32) fun x33 => ev_b (ev_pI s29 621 40 x33) fun s34 => some ((), s34))) else (ev_b (s23.1 621 40) fun x35 => ev_b (ev_ior x35 x5) fun x36 => ev_b (ev_ixor x6 ((-1))) fun x37 => ev_b (ev_iand x36 x37) fun x38 => ev_b (ev_pI s23 621 40 x38) fun s39 => ev_b (ev_pI s39 621 39 ((-1))) fun s40 => some ((), s40)))) fun K68 => ev_jn (fun  (s45 : ev_St) => K68 1 s45) fun K63 => if x12 ≠ 0 then (K63  s11) else (ev_jn (fun  (s51 : ev_St) => K68 0 s51) fun K67 => if x5 ≠ 0 then (K67  s11) else (if x6 ≠ 0 then (K67  s11) else (K63  s11)))) fun K47 => if x4 ≠ 45 then (K47 x2 0 s3) else (ev_bd (jm_234 Q 1 s3) fun _ s55 => ev_bd (jm_257 Q  s55) fun x57 s56 => ev_b (s56.1 621 25) fun x58 => ev_jn (fun (x59 : Int) (x60 : Int) (s65 : ev_St) => ev_if (ev_bl x60) (ev_b (ev_pI s65 621 25 x60) fun s66 => K47 x2 x59 s66)) fun K44 => ev_jn (fun (x68 : Int) (s73 : ev_St) => K44 x68 1 s73) fun K39 => if x58 ≠ 0 then (K39 x57 s56) else (if x57 ≠ 0 then (K44 x57 0 s56) else (K39 x57 s56)))
theorem jt_258 (d : Nat) (hd : 4 ≤ d) (Q : Nat)   (S : ev_St) (x : Unit) (S' : ev_St) (hJ : jm_258 Q  S = some (x, S')) : ev_Ref d 258 [.ref 621] S (ev_eU x) S' (ev_PU x) := by
  obtain ⟨d, rfl⟩ : ∃ e, d = e + 1 := ⟨d - 1, by omega⟩
  refine ev_ref_of (P := ev_PU) (lv := [(0, .ref 621)]) (by decide +kernel) (by (try simp only [ev_sum, ev_nv_cat]); first | done | rfl) (by (try simp only [lv_args, ev_nv_cat]); first | done | rfl) ?_ x S' hJ
  unfold jm_258
  refine ev_r_aload_n (pc := 0) (k := 0) (v := .ref 621) trivial (by decide +kernel) (by rfl) ?_
  refine ev_r_virt (pc := 1) (y := 453) (mi := 257) (na := 0) (k := 621) (as := []) (rest := []) (encc := ev_oI) (Q := ev_rng) (fun x S1 h => jt_257 d (by omega) Q   S x S1 h) (by exact ev_ob_621) (by decide +kernel) (by decide +kernel) (by decide +kernel) (by decide +kernel) rfl (by (try simp only [ev_sum, ev_nv_cat]); first | done | rfl) ?_
  intro x2 s1 hx2
  show ev_w _ _ _ _ _ [.int (Int32.ofInt x2)] _ _ _ _
  refine ev_r_istore_n (pc := 4) (k := 1) (by decide +kernel) (by decide +kernel) rfl ?_
  refine ev_r_iconst (pc := 5) (k := 0) (by decide +kernel) ?_
  refine ev_r_istore_n (pc := 6) (k := 2) (by decide +kernel) (by decide +kernel) rfl ?_
  refine ev_r_aload_n (pc := 7) (k := 0) (v := .ref 621) trivial (by decide +kernel) (by exact (ev_l1 (ev_lk_st1 (by rfl) (by decide) rfl) (by decide) (by decide))) ?_
  refine ev_r_iconst (pc := 8) (k := 0) (by decide +kernel) ?_
  refine ev_r_virt (pc := 9) (y := 409) (mi := 233) (na := 1) (k := 621) (as := [.int (Int32.ofInt 0)]) (rest := []) (encc := ev_oI) (Q := ev_rng) (fun x S1 h => jt_233 d (by omega) Q 0 (by decide) s1 x S1 h) (by exact ev_ob_621) (by decide +kernel) (by decide +kernel) (by decide +kernel) (by decide +kernel) rfl (by (try simp only [ev_sum, ev_nv_cat]); first | done | rfl) ?_
  intro x4 s3 hx4
  show ev_w _ _ _ _ _ [.int (Int32.ofInt x4)] _ _ _ _
  refine ev_r_bipush (pc := 12) (k := 45) (by decide +kernel) (by decide +kernel) ?_
  refine ev_r_jn (Q := fun K => ∀ (x5 : Int) (hx5 : ev_rng x5), ∀ (x6 : Int) (hx6 : ev_rng x6), ∀ (s11 : ev_St) (w7 : List (Nat × Value)), ev_lk w7 0 = some (.ref 621) → ev_lk w7 1 = some (.int (Int32.ofInt x5)) → ev_lk w7 2 = some (.int (Int32.ofInt x6)) → ev_w none (ev_Mof 258) d 47 w7 [] s11 (K x5 x6 s11) ev_eU ev_PU) ?_ ?_
  · intro x5 hx5 x6 hx6 s11 w7 e8 e9 e10
    refine ev_r_aload_n (pc := 47) (k := 0) (v := .ref 621) trivial (by decide +kernel) (by exact e8) ?_
    refine ev_r_aload_n (pc := 48) (k := 0) (v := .ref 621) trivial (by decide +kernel) (by exact e8) ?_
    refine ev_r_getI (pc := 49) (y := 352) (ci := 13) (f := 25) (fin := 0) (by decide +kernel) (by decide +kernel) (by exact ev_ob_621) rfl ?_
    intro x12 hx12
    refine ev_r_jn (Q := fun K => ∀ (x13 : Int) (hx13 : ev_rng x13), ∀ (s18 : ev_St) (w14 : List (Nat × Value)), ev_lk w14 0 = some (.ref 621) → ev_lk w14 1 = some (.int (Int32.ofInt x5)) → ev_lk w14 2 = some (.int (Int32.ofInt x6)) → ev_w none (ev_Mof 258) d 68 w14 [.int (Int32.ofInt x13), .ref 621] s18 (K x13 s18) ev_eU ev_PU) ?_ ?_
    · intro x13 hx13 s18 w14 e15 e16 e17
      refine ev_r_chk ?_
      intro c20
      refine ev_r_putI (pc := 68) (y := 352) (ci := 13) (f := 25) hx13 (by decide +kernel) (by decide +kernel) (by exact ev_ob_621) rfl (ev_fit_bl c20) ?_
      intro s19
      refine ev_r_aload_n (pc := 71) (k := 0) (v := .ref 621) trivial (by decide +kernel) (by exact e15) ?_
      refine ev_r_iconst (pc := 72) (k := 0) (by decide +kernel) ?_
      refine ev_r_virt (pc := 73) (y := 409) (mi := 233) (na := 1) (k := 621) (as := [.int (Int32.ofInt 0)]) (rest := []) (encc := ev_oI) (Q := ev_rng) (fun x S1 h => jt_233 d (by omega) Q 0 (by decide) s19 x S1 h) (by exact ev_ob_621) (by decide +kernel) (by decide +kernel) (by decide +kernel) (by decide +kernel) rfl (by (try simp only [ev_sum, ev_nv_cat]); first | done | rfl) ?_
      intro x22 s21 hx22
      show ev_w _ _ _ _ _ [.int (Int32.ofInt x22)] _ _ _ _
      refine ev_r_istore_n (pc := 76) (k := 3) (by decide +kernel) (by decide +kernel) rfl ?_
      refine ev_r_aload_n (pc := 77) (k := 0) (v := .ref 621) trivial (by decide +kernel) (by exact (ev_l1 e15 (by decide) (by decide))) ?_
      refine ev_r_iconst (pc := 78) (k := 1) (by decide +kernel) ?_
      refine ev_r_virt (pc := 79) (y := 415) (mi := 234) (na := 1) (k := 621) (as := [.int (Int32.ofInt 1)]) (rest := []) (encc := ev_oU) (Q := ev_PU) (fun x S1 h => jt_234 d (by omega) Q 1 (by decide) s21 x S1 h) (by exact ev_ob_621) (by decide +kernel) (by decide +kernel) (by decide +kernel) (by decide +kernel) rfl (by (try simp only [ev_sum, ev_nv_cat]); first | done | rfl) ?_
      intro _ s23 _
      show ev_w _ _ _ _ _ [] _ _ _ _
      refine ev_r_iload_n (pc := 82) (k := 3) (v := Int32.ofInt x22) (by decide +kernel) (by exact ev_lk_st1_self) ?_
      refine ev_r_bipush (pc := 83) (k := 41) (by decide +kernel) (by decide +kernel) ?_
      refine ev_r_icmp (pc := 85) (q := .ne) (o := 25) (t := 110) (c := x22 ≠ 41) (by decide +kernel) (ev_k_ne hx22 (by decide)) (by decide +kernel) ?_ ?_
      · intro c24
        refine ev_r_iload_n (pc := 110) (k := 3) (v := Int32.ofInt x22) (by decide +kernel) (by exact ev_lk_st1_self) ?_
        refine ev_r_bipush (pc := 111) (k := 58) (by decide +kernel) (by decide +kernel) ?_
        refine ev_r_icmp (pc := 113) (q := .ne) (o := 31) (t := 144) (c := x22 ≠ 58) (by decide +kernel) (ev_k_ne hx22 (by decide)) (by decide +kernel) ?_ ?_
        · intro c25
          refine ev_r_aload_n (pc := 144) (k := 0) (v := .ref 621) trivial (by decide +kernel) (by exact (ev_l1 e15 (by decide) (by decide))) ?_
          refine ev_r_iconst (pc := 145) (k := 1) (by decide +kernel) ?_
          refine ev_r_putI (pc := 146) (y := 352) (ci := 13) (f := 25) (by decide) (by decide +kernel) (by decide +kernel) (by exact ev_ob_621) rfl (ev_fit_bl (by decide : ev_bl 1)) ?_
          intro s26
          exact ev_r_return (pc := 149) (x := ()) trivial (by decide +kernel) (by decide +kernel) rfl
        · intro c25
          refine ev_r_aload_n (pc := 116) (k := 0) (v := .ref 621) trivial (by decide +kernel) (by exact (ev_l1 e15 (by decide) (by decide))) ?_
          refine ev_r_aload_n (pc := 117) (k := 0) (v := .ref 621) trivial (by decide +kernel) (by exact (ev_l1 e15 (by decide) (by decide))) ?_
          refine ev_r_bipush (pc := 118) (k := 9) (by decide +kernel) (by decide +kernel) ?_
          refine ev_r_virt (pc := 120) (y := 378) (mi := 237) (na := 1) (k := 621) (as := [.int (Int32.ofInt 9)]) (rest := [.ref 621]) (encc := ev_oI) (Q := ev_rng) (fun x S1 h => jt_237 d (by omega) Q 9 (by decide) s23 x S1 h) (by exact ev_ob_621) (by decide +kernel) (by decide +kernel) (by decide +kernel) (by decide +kernel) rfl (by (try simp only [ev_sum, ev_nv_cat]); first | done | rfl) ?_
          intro x28 s27 hx28
          show ev_w _ _ _ _ _ [.int (Int32.ofInt x28), .ref 621] _ _ _ _
          refine ev_r_iconst (pc := 123) (k := 0) (by decide +kernel) ?_
          refine ev_r_virt (pc := 124) (y := 456) (mi := 239) (na := 2) (k := 621) (as := [.int (Int32.ofInt x28), .int (Int32.ofInt 0)]) (rest := []) (encc := ev_oU) (Q := ev_PU) (fun x S1 h => jt_239 d (by omega) Q x28 0 hx28 (by decide) s27 x S1 h) (by exact ev_ob_621) (by decide +kernel) (by decide +kernel) (by decide +kernel) (by decide +kernel) rfl (by (try simp only [ev_sum, ev_nv_cat]); first | done | rfl) ?_
          intro _ s29 _
          show ev_w _ _ _ _ _ [] _ _ _ _
          refine ev_r_aload_n (pc := 127) (k := 0) (v := .ref 621) trivial (by decide +kernel) (by exact (ev_l1 e15 (by decide) (by decide))) ?_
          refine ev_r_aload_n (pc := 128) (k := 0) (v := .ref 621) trivial (by decide +kernel) (by exact (ev_l1 e15 (by decide) (by decide))) ?_
          refine ev_r_getI (pc := 129) (y := 384) (ci := 13) (f := 40) (fin := 0) (by decide +kernel) (by decide +kernel) (by exact ev_ob_621) rfl ?_
          intro x30 hx30
          refine ev_r_iload_n (pc := 132) (k := 1) (v := Int32.ofInt x5) (by decide +kernel) (by exact (ev_l1 e16 (by decide) (by decide))) ?_
          refine ev_r_ior (pc := 133) (by decide +kernel) ?_
          intro x31 hx31
          refine ev_r_iload_n (pc := 134) (k := 2) (v := Int32.ofInt x6) (by decide +kernel) (by exact (ev_lk_st1 e17 (by decide) rfl)) ?_
          refine ev_r_iconst (pc := 135) (k := -1) (by decide +kernel) ?_
          refine ev_r_ixor (pc := 136) (by decide +kernel) ?_
          intro x32 hx32
          refine ev_r_iand (pc := 137) (by decide +kernel) ?_
          intro x33 hx33
          refine ev_r_putI (pc := 138) (y := 384) (ci := 13) (f := 40) hx33 (by decide +kernel) (by decide +kernel) (by exact ev_ob_621) rfl rfl ?_
          intro s34
          refine ev_r_goto (pc := 141) (o := 8) (t := 149) (by decide +kernel) (by decide +kernel) ?_
          exact ev_r_return (pc := 149) (x := ()) trivial (by decide +kernel) (by decide +kernel) rfl
      · intro c24
        refine ev_r_aload_n (pc := 88) (k := 0) (v := .ref 621) trivial (by decide +kernel) (by exact (ev_l1 e15 (by decide) (by decide))) ?_
        refine ev_r_aload_n (pc := 89) (k := 0) (v := .ref 621) trivial (by decide +kernel) (by exact (ev_l1 e15 (by decide) (by decide))) ?_
        refine ev_r_getI (pc := 90) (y := 384) (ci := 13) (f := 40) (fin := 0) (by decide +kernel) (by decide +kernel) (by exact ev_ob_621) rfl ?_
        intro x35 hx35
        refine ev_r_iload_n (pc := 93) (k := 1) (v := Int32.ofInt x5) (by decide +kernel) (by exact (ev_l1 e16 (by decide) (by decide))) ?_
        refine ev_r_ior (pc := 94) (by decide +kernel) ?_
        intro x36 hx36
        refine ev_r_iload_n (pc := 95) (k := 2) (v := Int32.ofInt x6) (by decide +kernel) (by exact (ev_lk_st1 e17 (by decide) rfl)) ?_
        refine ev_r_iconst (pc := 96) (k := -1) (by decide +kernel) ?_
        refine ev_r_ixor (pc := 97) (by decide +kernel) ?_
        intro x37 hx37
        refine ev_r_iand (pc := 98) (by decide +kernel) ?_
        intro x38 hx38
        refine ev_r_putI (pc := 99) (y := 384) (ci := 13) (f := 40) hx38 (by decide +kernel) (by decide +kernel) (by exact ev_ob_621) rfl rfl ?_
        intro s39
        refine ev_r_aload_n (pc := 102) (k := 0) (v := .ref 621) trivial (by decide +kernel) (by exact (ev_l1 e15 (by decide) (by decide))) ?_
        refine ev_r_iconst (pc := 103) (k := -1) (by decide +kernel) ?_
        refine ev_r_putI (pc := 104) (y := 375) (ci := 13) (f := 39) (by decide) (by decide +kernel) (by decide +kernel) (by exact ev_ob_621) rfl rfl ?_
        intro s40
        refine ev_r_goto (pc := 107) (o := 42) (t := 149) (by decide +kernel) (by decide +kernel) ?_
        exact ev_r_return (pc := 149) (x := ()) trivial (by decide +kernel) (by decide +kernel) rfl
    · intro K68 hK68
      refine ev_r_jn (Q := fun K => ∀ (s45 : ev_St) (w41 : List (Nat × Value)), ev_lk w41 0 = some (.ref 621) → ev_lk w41 1 = some (.int (Int32.ofInt x5)) → ev_lk w41 2 = some (.int (Int32.ofInt x6)) → ev_w none (ev_Mof 258) d 63 w41 [.ref 621] s45 (K  s45) ev_eU ev_PU) ?_ ?_
      · intro  s45 w41 e42 e43 e44
        refine ev_r_iconst (pc := 63) (k := 1) (by decide +kernel) ?_
        refine ev_r_goto (pc := 64) (o := 4) (t := 68) (by decide +kernel) (by decide +kernel) ?_
        exact hK68 1 (by decide) s45 _ (by exact e42) (by exact e43) (by exact e44)
      · intro K63 hK63
        refine ev_r_if (pc := 52) (q := .ne) (o := 11) (t := 63) (c := x12 ≠ 0) (by decide +kernel) (ev_k_ne hx12 ev_rng0) (by decide +kernel) ?_ ?_
        · intro c46
          exact hK63  s11 _ (by exact e8) (by exact e9) (by exact e10)
        · intro c46
          refine ev_r_iload_n (pc := 55) (k := 1) (v := Int32.ofInt x5) (by decide +kernel) (by exact e9) ?_
          refine ev_r_jn (Q := fun K => ∀ (s51 : ev_St) (w47 : List (Nat × Value)), ev_lk w47 0 = some (.ref 621) → ev_lk w47 1 = some (.int (Int32.ofInt x5)) → ev_lk w47 2 = some (.int (Int32.ofInt x6)) → ev_w none (ev_Mof 258) d 67 w47 [.ref 621] s51 (K  s51) ev_eU ev_PU) ?_ ?_
          · intro  s51 w47 e48 e49 e50
            refine ev_r_iconst (pc := 67) (k := 0) (by decide +kernel) ?_
            exact hK68 0 (by decide) s51 _ (by exact e48) (by exact e49) (by exact e50)
          · intro K67 hK67
            refine ev_r_if (pc := 56) (q := .ne) (o := 11) (t := 67) (c := x5 ≠ 0) (by decide +kernel) (ev_k_ne hx5 ev_rng0) (by decide +kernel) ?_ ?_
            · intro c52
              exact hK67  s11 _ (by exact e8) (by exact e9) (by exact e10)
            · intro c52
              refine ev_r_iload_n (pc := 59) (k := 2) (v := Int32.ofInt x6) (by decide +kernel) (by exact e10) ?_
              refine ev_r_if (pc := 60) (q := .ne) (o := 7) (t := 67) (c := x6 ≠ 0) (by decide +kernel) (ev_k_ne hx6 ev_rng0) (by decide +kernel) ?_ ?_
              · intro c53
                exact hK67  s11 _ (by exact e8) (by exact e9) (by exact e10)
              · intro c53
                exact hK63  s11 _ (by exact e8) (by exact e9) (by exact e10)
  · intro K47 hK47
    refine ev_r_icmp (pc := 14) (q := .ne) (o := 33) (t := 47) (c := x4 ≠ 45) (by decide +kernel) (ev_k_ne hx4 (by decide)) (by decide +kernel) ?_ ?_
    · intro c54
      exact hK47 x2 hx2 0 (by decide) s3 _ (by exact (ev_l1 (ev_lk_st1 (by rfl) (by decide) rfl) (by decide) (by decide))) (by exact (ev_lk_st1 ev_lk_st1_self (by decide) rfl)) (by exact ev_lk_st1_self)
    · intro c54
      refine ev_r_aload_n (pc := 17) (k := 0) (v := .ref 621) trivial (by decide +kernel) (by exact (ev_l1 (ev_lk_st1 (by rfl) (by decide) rfl) (by decide) (by decide))) ?_
      refine ev_r_iconst (pc := 18) (k := 1) (by decide +kernel) ?_
      refine ev_r_virt (pc := 19) (y := 415) (mi := 234) (na := 1) (k := 621) (as := [.int (Int32.ofInt 1)]) (rest := []) (encc := ev_oU) (Q := ev_PU) (fun x S1 h => jt_234 d (by omega) Q 1 (by decide) s3 x S1 h) (by exact ev_ob_621) (by decide +kernel) (by decide +kernel) (by decide +kernel) (by decide +kernel) rfl (by (try simp only [ev_sum, ev_nv_cat]); first | done | rfl) ?_
      intro _ s55 _
      show ev_w _ _ _ _ _ [] _ _ _ _
      refine ev_r_aload_n (pc := 22) (k := 0) (v := .ref 621) trivial (by decide +kernel) (by exact (ev_l1 (ev_lk_st1 (by rfl) (by decide) rfl) (by decide) (by decide))) ?_
      refine ev_r_virt (pc := 23) (y := 453) (mi := 257) (na := 0) (k := 621) (as := []) (rest := []) (encc := ev_oI) (Q := ev_rng) (fun x S1 h => jt_257 d (by omega) Q   s55 x S1 h) (by exact ev_ob_621) (by decide +kernel) (by decide +kernel) (by decide +kernel) (by decide +kernel) rfl (by (try simp only [ev_sum, ev_nv_cat]); first | done | rfl) ?_
      intro x57 s56 hx57
      show ev_w _ _ _ _ _ [.int (Int32.ofInt x57)] _ _ _ _
      refine ev_r_istore_n (pc := 26) (k := 2) (by decide +kernel) (by decide +kernel) rfl ?_
      refine ev_r_aload_n (pc := 27) (k := 0) (v := .ref 621) trivial (by decide +kernel) (by exact (ev_l1 (ev_l1 (ev_lk_st1 (by rfl) (by decide) rfl) (by decide) (by decide)) (by decide) (by decide))) ?_
      refine ev_r_aload_n (pc := 28) (k := 0) (v := .ref 621) trivial (by decide +kernel) (by exact (ev_l1 (ev_l1 (ev_lk_st1 (by rfl) (by decide) rfl) (by decide) (by decide)) (by decide) (by decide))) ?_
      refine ev_r_getI (pc := 29) (y := 352) (ci := 13) (f := 25) (fin := 0) (by decide +kernel) (by decide +kernel) (by exact ev_ob_621) rfl ?_
      intro x58 hx58
      refine ev_r_jn (Q := fun K => ∀ (x59 : Int) (hx59 : ev_rng x59), ∀ (x60 : Int) (hx60 : ev_rng x60), ∀ (s65 : ev_St) (w61 : List (Nat × Value)), ev_lk w61 0 = some (.ref 621) → ev_lk w61 1 = some (.int (Int32.ofInt x2)) → ev_lk w61 2 = some (.int (Int32.ofInt x59)) → ev_w none (ev_Mof 258) d 44 w61 [.int (Int32.ofInt x60), .ref 621] s65 (K x59 x60 s65) ev_eU ev_PU) ?_ ?_
      · intro x59 hx59 x60 hx60 s65 w61 e62 e63 e64
        refine ev_r_chk ?_
        intro c67
        refine ev_r_putI (pc := 44) (y := 352) (ci := 13) (f := 25) hx60 (by decide +kernel) (by decide +kernel) (by exact ev_ob_621) rfl (ev_fit_bl c67) ?_
        intro s66
        exact hK47 x2 hx2 x59 hx59 s66 _ (by exact e62) (by exact e63) (by exact e64)
      · intro K44 hK44
        refine ev_r_jn (Q := fun K => ∀ (x68 : Int) (hx68 : ev_rng x68), ∀ (s73 : ev_St) (w69 : List (Nat × Value)), ev_lk w69 0 = some (.ref 621) → ev_lk w69 1 = some (.int (Int32.ofInt x2)) → ev_lk w69 2 = some (.int (Int32.ofInt x68)) → ev_w none (ev_Mof 258) d 39 w69 [.ref 621] s73 (K x68 s73) ev_eU ev_PU) ?_ ?_
        · intro x68 hx68 s73 w69 e70 e71 e72
          refine ev_r_iconst (pc := 39) (k := 1) (by decide +kernel) ?_
          refine ev_r_goto (pc := 40) (o := 4) (t := 44) (by decide +kernel) (by decide +kernel) ?_
          exact hK44 x68 hx68 1 (by decide) s73 _ (by exact e70) (by exact e71) (by exact e72)
        · intro K39 hK39
          refine ev_r_if (pc := 32) (q := .ne) (o := 7) (t := 39) (c := x58 ≠ 0) (by decide +kernel) (ev_k_ne hx58 ev_rng0) (by decide +kernel) ?_ ?_
          · intro c74
            exact hK39 x57 hx57 s56 _ (by exact (ev_l1 (ev_l1 (ev_lk_st1 (by rfl) (by decide) rfl) (by decide) (by decide)) (by decide) (by decide))) (by exact (ev_lk_st1 (ev_lk_st1 ev_lk_st1_self (by decide) rfl) (by decide) rfl)) (by exact ev_lk_st1_self)
          · intro c74
            refine ev_r_iload_n (pc := 35) (k := 2) (v := Int32.ofInt x57) (by decide +kernel) (by exact ev_lk_st1_self) ?_
            refine ev_r_if (pc := 36) (q := .ne) (o := 7) (t := 43) (c := x57 ≠ 0) (by decide +kernel) (ev_k_ne hx57 ev_rng0) (by decide +kernel) ?_ ?_
            · intro c75
              refine ev_r_iconst (pc := 43) (k := 0) (by decide +kernel) ?_
              exact hK44 x57 hx57 0 (by decide) s56 _ (by exact (ev_l1 (ev_l1 (ev_lk_st1 (by rfl) (by decide) rfl) (by decide) (by decide)) (by decide) (by decide))) (by exact (ev_lk_st1 (ev_lk_st1 ev_lk_st1_self (by decide) rfl) (by decide) rfl)) (by exact ev_lk_st1_self)
            · intro c75
              exact hK39 x57 hx57 s56 _ (by exact (ev_l1 (ev_l1 (ev_lk_st1 (by rfl) (by decide) rfl) (by decide) (by decide)) (by decide) (by decide))) (by exact (ev_lk_st1 (ev_lk_st1 ev_lk_st1_self (by decide) rfl) (by decide) rfl)) (by exact ev_lk_st1_self)
/-- MendBenchModel.group(I)V -/
def jm_259 (Q : Nat) (a0 : Int) (S : ev_St) : Option ((Unit) × ev_St) := ev_if ((0 : Int) ≤ 12 ∧ 12 < (ev_aln 636 : Int)) (ev_b (S.1 636 (Int.toNat 12)) fun x1 => if x1 = 9 then (ev_b (ev_pI S 621 25 1) fun s3 => some ((), s3)) else (ev_jn (fun  (s7 : ev_St) => ev_bd (jm_237 Q 8 s7) fun x9 s8 => ev_if ((0 : Int) ≤ 12 ∧ 12 < (ev_aln 636 : Int)) (ev_b (s8.1 636 (Int.toNat 12)) fun x10 => ev_ck (x10 + 1) fun x11 => ev_if ((0 : Int) ≤ 12 ∧ 12 < (ev_aln 636 : Int)) (ev_b (ev_pI s8 636 (Int.toNat 12) x11) fun s12 => ev_bd (jm_232 Q  s12) fun x14 s13 => ev_ck (x14 + x9) fun x15 => ev_if ((0 : Int) ≤ 12 ∧ 12 < (ev_aln 636 : Int)) (ev_b (s13.1 636 (Int.toNat 12)) fun x16 => ev_if ((0 : Int) ≤ x15 ∧ x15 < (ev_aln 628 : Int)) (ev_b (ev_pI s13 628 (Int.toNat x15) x16) fun s17 => ev_if ((0 : Int) ≤ 12 ∧ 12 < (ev_aln 636 : Int)) (ev_b (s17.1 636 (Int.toNat 12)) fun x18 => ev_ck (120 + x18) fun x19 => ev_if ((0 : Int) ≤ x19 ∧ x19 < (ev_aln 637 : Int)) (ev_b (ev_pI s17 637 (Int.toNat x19) x9) fun s20 => ev_jn (fun (x21 : Int) (s25 : ev_St) => ev_bd (jm_239 Q x21 0 s25) fun _ s26 => some ((), s26)) fun K110 => if a0 = (-1) then (K110 x9 s20) else (ev_ck (312 + a0) fun x28 => ev_if ((0 : Int) ≤ 12 ∧ 12 < (ev_aln 636 : Int)) (ev_b (s20.1 636 (Int.toNat 12)) fun x29 => ev_if ((0 : Int) ≤ x28 ∧ x28 < (ev_aln 638 : Int)) (ev_b (ev_pI s20 638 (Int.toNat x28) x29) fun s30 => K110 x9 s30)))))))))) fun K36 => if a0 = (-1) then (K36  S) else (ev_ck (312 + a0) fun x32 => ev_if ((0 : Int) ≤ x32 ∧ x32 < (ev_aln 638 : Int)) (ev_b (S.1 638 (Int.toNat x32)) fun x33 => if x33 ≤ 0 then (K36  S) else (ev_b (ev_pI S 621 25 1) fun s35 => some ((), s35))))))
theorem jt_259 (d : Nat) (hd : 4 ≤ d) (Q : Nat) (a0 : Int) (ha0 : ev_rng a0) (S : ev_St) (x : Unit) (S' : ev_St) (hJ : jm_259 Q a0 S = some (x, S')) : ev_Ref d 259 [.ref 621, .int (Int32.ofInt a0)] S (ev_eU x) S' (ev_PU x) := by
  obtain ⟨d, rfl⟩ : ∃ e, d = e + 1 := ⟨d - 1, by omega⟩
  refine ev_ref_of (P := ev_PU) (lv := [(0, .ref 621), (1, .int (Int32.ofInt a0))]) (by decide +kernel) (by (try simp only [ev_sum, ev_nv_cat]); first | done | rfl) (by (try simp only [lv_args, ev_nv_cat]); first | done | rfl) ?_ x S' hJ
  unfold jm_259
  refine ev_r_aload_n (pc := 0) (k := 0) (v := .ref 621) trivial (by decide +kernel) (by rfl) ?_
  refine ev_r_getC (pc := 1) (y := 53) (ci := 13) (f := 17) (fin := 1) (k' := 636) (by decide +kernel) (by decide +kernel) (by exact ev_ob_621) rfl rfl ?_
  refine ev_r_bipush (pc := 4) (k := 12) (by decide +kernel) (by decide +kernel) ?_
  refine ev_r_iald (pc := 6) (by decide) (by decide +kernel) (by exact ev_ab_636) ?_
  intro x1 hx1
  refine ev_r_bipush (pc := 7) (k := 9) (by decide +kernel) (by decide +kernel) ?_
  refine ev_r_icmp (pc := 9) (q := .eq) (o := 21) (t := 30) (c := x1 = 9) (by decide +kernel) (ev_k_eq hx1 (by decide)) (by decide +kernel) ?_ ?_
  · intro c2
    refine ev_r_aload_n (pc := 30) (k := 0) (v := .ref 621) trivial (by decide +kernel) (by rfl) ?_
    refine ev_r_iconst (pc := 31) (k := 1) (by decide +kernel) ?_
    refine ev_r_putI (pc := 32) (y := 352) (ci := 13) (f := 25) (by decide) (by decide +kernel) (by decide +kernel) (by exact ev_ob_621) rfl (ev_fit_bl (by decide : ev_bl 1)) ?_
    intro s3
    exact ev_r_return (pc := 35) (x := ()) trivial (by decide +kernel) (by decide +kernel) rfl
  · intro c2
    refine ev_r_iload_n (pc := 12) (k := 1) (v := Int32.ofInt a0) (by decide +kernel) (by rfl) ?_
    refine ev_r_iconst (pc := 13) (k := -1) (by decide +kernel) ?_
    refine ev_r_jn (Q := fun K => ∀ (s7 : ev_St) (w4 : List (Nat × Value)), ev_lk w4 0 = some (.ref 621) → ev_lk w4 1 = some (.int (Int32.ofInt a0)) → ev_w none (ev_Mof 259) d 36 w4 [] s7 (K  s7) ev_eU ev_PU) ?_ ?_
    · intro  s7 w4 e5 e6
      refine ev_r_aload_n (pc := 36) (k := 0) (v := .ref 621) trivial (by decide +kernel) (by exact e5) ?_
      refine ev_r_bipush (pc := 37) (k := 8) (by decide +kernel) (by decide +kernel) ?_
      refine ev_r_virt (pc := 39) (y := 378) (mi := 237) (na := 1) (k := 621) (as := [.int (Int32.ofInt 8)]) (rest := []) (encc := ev_oI) (Q := ev_rng) (fun x S1 h => jt_237 d (by omega) Q 8 (by decide) s7 x S1 h) (by exact ev_ob_621) (by decide +kernel) (by decide +kernel) (by decide +kernel) (by decide +kernel) rfl (by (try simp only [ev_sum, ev_nv_cat]); first | done | rfl) ?_
      intro x9 s8 hx9
      show ev_w _ _ _ _ _ [.int (Int32.ofInt x9)] _ _ _ _
      refine ev_r_istore_n (pc := 42) (k := 2) (by decide +kernel) (by decide +kernel) rfl ?_
      refine ev_r_aload_n (pc := 43) (k := 0) (v := .ref 621) trivial (by decide +kernel) (by exact (ev_l1 e5 (by decide) (by decide))) ?_
      refine ev_r_getC (pc := 44) (y := 53) (ci := 13) (f := 17) (fin := 1) (k' := 636) (by decide +kernel) (by decide +kernel) (by exact ev_ob_621) rfl rfl ?_
      refine ev_r_bipush (pc := 47) (k := 12) (by decide +kernel) (by decide +kernel) ?_
      refine ev_r_dup2 (pc := 49) rfl rfl (by decide +kernel) ?_
      refine ev_r_iald (pc := 50) (by decide) (by decide +kernel) (by exact ev_ab_636) ?_
      intro x10 hx10
      refine ev_r_iconst (pc := 51) (k := 1) (by decide +kernel) ?_
      refine ev_r_iadd (pc := 52) (by decide +kernel) ?_
      intro x11 hx11
      refine ev_r_iast (pc := 53) hx11 (by decide) (by decide +kernel) (by exact ev_ab_636) ?_
      intro s12
      refine ev_r_aload_n (pc := 54) (k := 0) (v := .ref 621) trivial (by decide +kernel) (by exact (ev_l1 e5 (by decide) (by decide))) ?_
      refine ev_r_getC (pc := 55) (y := 28) (ci := 13) (f := 9) (fin := 1) (k' := 628) (by decide +kernel) (by decide +kernel) (by exact ev_ob_621) rfl rfl ?_
      refine ev_r_aload_n (pc := 58) (k := 0) (v := .ref 621) trivial (by decide +kernel) (by exact (ev_l1 e5 (by decide) (by decide))) ?_
      refine ev_r_virt (pc := 59) (y := 356) (mi := 232) (na := 0) (k := 621) (as := []) (rest := [.ref 628]) (encc := ev_oI) (Q := ev_rng) (fun x S1 h => jt_232 d (by omega) Q   s12 x S1 h) (by exact ev_ob_621) (by decide +kernel) (by decide +kernel) (by decide +kernel) (by decide +kernel) rfl (by (try simp only [ev_sum, ev_nv_cat]); first | done | rfl) ?_
      intro x14 s13 hx14
      show ev_w _ _ _ _ _ [.int (Int32.ofInt x14), .ref 628] _ _ _ _
      refine ev_r_iload_n (pc := 62) (k := 2) (v := Int32.ofInt x9) (by decide +kernel) (by exact ev_lk_st1_self) ?_
      refine ev_r_iadd (pc := 63) (by decide +kernel) ?_
      intro x15 hx15
      refine ev_r_aload_n (pc := 64) (k := 0) (v := .ref 621) trivial (by decide +kernel) (by exact (ev_l1 e5 (by decide) (by decide))) ?_
      refine ev_r_getC (pc := 65) (y := 53) (ci := 13) (f := 17) (fin := 1) (k' := 636) (by decide +kernel) (by decide +kernel) (by exact ev_ob_621) rfl rfl ?_
      refine ev_r_bipush (pc := 68) (k := 12) (by decide +kernel) (by decide +kernel) ?_
      refine ev_r_iald (pc := 70) (by decide) (by decide +kernel) (by exact ev_ab_636) ?_
      intro x16 hx16
      refine ev_r_iast (pc := 71) hx16 hx15 (by decide +kernel) (by exact ev_ab_628) ?_
      intro s17
      refine ev_r_aload_n (pc := 72) (k := 0) (v := .ref 621) trivial (by decide +kernel) (by exact (ev_l1 e5 (by decide) (by decide))) ?_
      refine ev_r_getC (pc := 73) (y := 56) (ci := 13) (f := 18) (fin := 1) (k' := 637) (by decide +kernel) (by decide +kernel) (by exact ev_ob_621) rfl rfl ?_
      refine ev_r_bipush (pc := 76) (k := 120) (by decide +kernel) (by decide +kernel) ?_
      refine ev_r_aload_n (pc := 78) (k := 0) (v := .ref 621) trivial (by decide +kernel) (by exact (ev_l1 e5 (by decide) (by decide))) ?_
      refine ev_r_getC (pc := 79) (y := 53) (ci := 13) (f := 17) (fin := 1) (k' := 636) (by decide +kernel) (by decide +kernel) (by exact ev_ob_621) rfl rfl ?_
      refine ev_r_bipush (pc := 82) (k := 12) (by decide +kernel) (by decide +kernel) ?_
      refine ev_r_iald (pc := 84) (by decide) (by decide +kernel) (by exact ev_ab_636) ?_
      intro x18 hx18
      refine ev_r_iadd (pc := 85) (by decide +kernel) ?_
      intro x19 hx19
      refine ev_r_iload_n (pc := 86) (k := 2) (v := Int32.ofInt x9) (by decide +kernel) (by exact ev_lk_st1_self) ?_
      refine ev_r_iast (pc := 87) hx9 hx19 (by decide +kernel) (by exact ev_ab_637) ?_
      intro s20
      refine ev_r_iload_n (pc := 88) (k := 1) (v := Int32.ofInt a0) (by decide +kernel) (by exact (ev_lk_st1 e6 (by decide) rfl)) ?_
      refine ev_r_iconst (pc := 89) (k := -1) (by decide +kernel) ?_
      refine ev_r_jn (Q := fun K => ∀ (x21 : Int) (hx21 : ev_rng x21), ∀ (s25 : ev_St) (w22 : List (Nat × Value)), ev_lk w22 0 = some (.ref 621) → ev_lk w22 2 = some (.int (Int32.ofInt x21)) → ev_w none (ev_Mof 259) d 110 w22 [] s25 (K x21 s25) ev_eU ev_PU) ?_ ?_
      · intro x21 hx21 s25 w22 e23 e24
        refine ev_r_aload_n (pc := 110) (k := 0) (v := .ref 621) trivial (by decide +kernel) (by exact e23) ?_
        refine ev_r_iload_n (pc := 111) (k := 2) (v := Int32.ofInt x21) (by decide +kernel) (by exact e24) ?_
        refine ev_r_iconst (pc := 112) (k := 0) (by decide +kernel) ?_
        refine ev_r_virt (pc := 113) (y := 456) (mi := 239) (na := 2) (k := 621) (as := [.int (Int32.ofInt x21), .int (Int32.ofInt 0)]) (rest := []) (encc := ev_oU) (Q := ev_PU) (fun x S1 h => jt_239 d (by omega) Q x21 0 hx21 (by decide) s25 x S1 h) (by exact ev_ob_621) (by decide +kernel) (by decide +kernel) (by decide +kernel) (by decide +kernel) rfl (by (try simp only [ev_sum, ev_nv_cat]); first | done | rfl) ?_
        intro _ s26 _
        show ev_w _ _ _ _ _ [] _ _ _ _
        exact ev_r_return (pc := 116) (x := ()) trivial (by decide +kernel) (by decide +kernel) rfl
      · intro K110 hK110
        refine ev_r_icmp (pc := 90) (q := .eq) (o := 20) (t := 110) (c := a0 = (-1)) (by decide +kernel) (ev_k_eq ha0 (by decide)) (by decide +kernel) ?_ ?_
        · intro c27
          exact hK110 x9 hx9 s20 _ (by exact (ev_l1 e5 (by decide) (by decide))) (by exact ev_lk_st1_self)
        · intro c27
          refine ev_r_aload_n (pc := 93) (k := 0) (v := .ref 621) trivial (by decide +kernel) (by exact (ev_l1 e5 (by decide) (by decide))) ?_
          refine ev_r_getC (pc := 94) (y := 59) (ci := 13) (f := 19) (fin := 1) (k' := 638) (by decide +kernel) (by decide +kernel) (by exact ev_ob_621) rfl rfl ?_
          refine ev_r_sipush (pc := 97) (k := 312) (by decide +kernel) (by decide +kernel) ?_
          refine ev_r_iload_n (pc := 100) (k := 1) (v := Int32.ofInt a0) (by decide +kernel) (by exact (ev_lk_st1 e6 (by decide) rfl)) ?_
          refine ev_r_iadd (pc := 101) (by decide +kernel) ?_
          intro x28 hx28
          refine ev_r_aload_n (pc := 102) (k := 0) (v := .ref 621) trivial (by decide +kernel) (by exact (ev_l1 e5 (by decide) (by decide))) ?_
          refine ev_r_getC (pc := 103) (y := 53) (ci := 13) (f := 17) (fin := 1) (k' := 636) (by decide +kernel) (by decide +kernel) (by exact ev_ob_621) rfl rfl ?_
          refine ev_r_bipush (pc := 106) (k := 12) (by decide +kernel) (by decide +kernel) ?_
          refine ev_r_iald (pc := 108) (by decide) (by decide +kernel) (by exact ev_ab_636) ?_
          intro x29 hx29
          refine ev_r_iast (pc := 109) hx29 hx28 (by decide +kernel) (by exact ev_ab_638) ?_
          intro s30
          exact hK110 x9 hx9 s30 _ (by exact (ev_l1 e5 (by decide) (by decide))) (by exact ev_lk_st1_self)
    · intro K36 hK36
      refine ev_r_icmp (pc := 14) (q := .eq) (o := 22) (t := 36) (c := a0 = (-1)) (by decide +kernel) (ev_k_eq ha0 (by decide)) (by decide +kernel) ?_ ?_
      · intro c31
        exact hK36  S _ (by rfl) (by rfl)
      · intro c31
        refine ev_r_aload_n (pc := 17) (k := 0) (v := .ref 621) trivial (by decide +kernel) (by rfl) ?_
        refine ev_r_getC (pc := 18) (y := 59) (ci := 13) (f := 19) (fin := 1) (k' := 638) (by decide +kernel) (by decide +kernel) (by exact ev_ob_621) rfl rfl ?_
        refine ev_r_sipush (pc := 21) (k := 312) (by decide +kernel) (by decide +kernel) ?_
        refine ev_r_iload_n (pc := 24) (k := 1) (v := Int32.ofInt a0) (by decide +kernel) (by rfl) ?_
        refine ev_r_iadd (pc := 25) (by decide +kernel) ?_
        intro x32 hx32
        refine ev_r_iald (pc := 26) hx32 (by decide +kernel) (by exact ev_ab_638) ?_
        intro x33 hx33
        refine ev_r_if (pc := 27) (q := .le) (o := 9) (t := 36) (c := x33 ≤ 0) (by decide +kernel) (ev_k_le hx33 ev_rng0) (by decide +kernel) ?_ ?_
        · intro c34
          exact hK36  S _ (by rfl) (by rfl)
        · intro c34
          refine ev_r_aload_n (pc := 30) (k := 0) (v := .ref 621) trivial (by decide +kernel) (by rfl) ?_
          refine ev_r_iconst (pc := 31) (k := 1) (by decide +kernel) ?_
          refine ev_r_putI (pc := 32) (y := 352) (ci := 13) (f := 25) (by decide) (by decide +kernel) (by decide +kernel) (by exact ev_ob_621) rfl (ev_fit_bl (by decide : ev_bl 1)) ?_
          intro s35
          exact ev_r_return (pc := 35) (x := ()) trivial (by decide +kernel) (by decide +kernel) rfl
def jb_260_18 (Q : Nat) (a0 : Int)  (K18 : Int → Int → ev_St → Option ((Unit) × ev_St)) (x7 : Int) (x8 : Int) (s14 : ev_St) : Option ((Unit) × ev_St) := ev_b (s14.1 621 28) fun x15 => if x15 < x8 then (if x7 = 0 then (ev_b (ev_pI s14 621 25 1) fun s18 => some ((), s18)) else (ev_b (s14.1 621 26) fun x19 => if x19 = a0 then (ev_b (ev_pI s14 621 25 1) fun s21 => some ((), s21)) else (ev_b (s14.1 621 28) fun x22 => if x22 ≠ 27 then (ev_bd (jm_237 Q 9 s14) fun x25 s24 => ev_bd (jm_239 Q x25 1 s24) fun _ s26 => ev_b (s26.1 621 28) fun x27 => ev_ck (x27 + 1) fun x28 => ev_b (ev_pI s26 621 28 x28) fun s29 => ev_b (s29.1 621 28) fun x30 => ev_if ((0 : Int) ≤ x30 ∧ x30 < (ev_aln 644 : Int)) (ev_b (ev_pI s29 644 (Int.toNat x30) a0) fun s31 => ev_b (s31.1 621 28) fun x32 => ev_if ((0 : Int) ≤ x32 ∧ x32 < (ev_aln 645 : Int)) (ev_b (ev_pI s31 645 (Int.toNat x32) 0) fun s33 => some ((), s33)))) else (ev_b (ev_pI s14 621 25 1) fun s34 => some ((), s34))))) else (ev_jn (fun (x35 : Int) (s40 : ev_St) => ev_ck (x8 + 1) fun x41 => K18 x35 x41 s40) fun K45 => ev_jn (fun  (s46 : ev_St) => K45 0 s46) fun K44 => if x7 = 0 then (K44  s14) else (ev_if ((0 : Int) ≤ x8 ∧ x8 < (ev_aln 644 : Int)) (ev_b (s14.1 644 (Int.toNat x8)) fun x48 => if x48 = a0 then (K44  s14) else (K45 1 s14))))
def jl_260_18 (Q : Nat) (a0 : Int)  : Nat → Int → Int → ev_St → Option ((Unit) × ev_St)
  | 0 => fun _ _ _ => none
  | q + 1 => jb_260_18 Q a0  (jl_260_18 Q a0  q)
theorem jbt_260_18 (d : Nat) (hd : 4 ≤ d + 1) (Q : Nat) (a0 : Int) (ha0 : ev_rng a0)   (K18 : Int → Int → ev_St → Option ((Unit) × ev_St)) (hK18 : ∀ (x7 : Int) (hx7 : ev_rng x7), ∀ (x8 : Int) (hx8 : ev_rng x8), ∀ (s14 : ev_St) (w9 : List (Nat × Value)), ev_lk w9 0 = some (.ref 621) → ev_lk w9 1 = some (.int (Int32.ofInt a0)) → ev_lk w9 2 = some (.int (Int32.ofInt x7)) → ev_lk w9 3 = some (.int (Int32.ofInt x8)) → ev_w none (ev_Mof 260) d 18 w9 [] s14 (K18 x7 x8 s14) ev_eU ev_PU) : ∀ (x7 : Int) (hx7 : ev_rng x7), ∀ (x8 : Int) (hx8 : ev_rng x8), ∀ (s14 : ev_St) (w9 : List (Nat × Value)), ev_lk w9 0 = some (.ref 621) → ev_lk w9 1 = some (.int (Int32.ofInt a0)) → ev_lk w9 2 = some (.int (Int32.ofInt x7)) → ev_lk w9 3 = some (.int (Int32.ofInt x8)) → ev_w none (ev_Mof 260) d 18 w9 [] s14 (jb_260_18 Q a0  K18 x7 x8 s14) ev_eU ev_PU := by
  intro x7 hx7 x8 hx8 s14 w9 e10 e11 e12 e13
  unfold jb_260_18
  refine ev_r_iload_n (pc := 18) (k := 3) (v := Int32.ofInt x8) (by decide +kernel) (by exact e13) ?_
  refine ev_r_aload_n (pc := 19) (k := 0) (v := .ref 621) trivial (by decide +kernel) (by exact e10) ?_
  refine ev_r_getI (pc := 20) (y := 349) (ci := 13) (f := 28) (fin := 0) (by decide +kernel) (by decide +kernel) (by exact ev_ob_621) rfl ?_
  intro x15 hx15
  refine ev_r_icmp (pc := 23) (q := .gt) (o := 29) (t := 52) (c := x15 < x8) (by decide +kernel) (ev_k_gt hx8 hx15) (by decide +kernel) ?_ ?_
  · intro c16
    refine ev_r_iload_n (pc := 52) (k := 2) (v := Int32.ofInt x7) (by decide +kernel) (by exact e12) ?_
    refine ev_r_if (pc := 53) (q := .eq) (o := 20) (t := 73) (c := x7 = 0) (by decide +kernel) (ev_k_eq hx7 ev_rng0) (by decide +kernel) ?_ ?_
    · intro c17
      refine ev_r_aload_n (pc := 73) (k := 0) (v := .ref 621) trivial (by decide +kernel) (by exact e10) ?_
      refine ev_r_iconst (pc := 74) (k := 1) (by decide +kernel) ?_
      refine ev_r_putI (pc := 75) (y := 352) (ci := 13) (f := 25) (by decide) (by decide +kernel) (by decide +kernel) (by exact ev_ob_621) rfl (ev_fit_bl (by decide : ev_bl 1)) ?_
      intro s18
      exact ev_r_return (pc := 78) (x := ()) trivial (by decide +kernel) (by decide +kernel) rfl
    · intro c17
      refine ev_r_aload_n (pc := 56) (k := 0) (v := .ref 621) trivial (by decide +kernel) (by exact e10) ?_
      refine ev_r_getI (pc := 57) (y := 460) (ci := 13) (f := 26) (fin := 0) (by decide +kernel) (by decide +kernel) (by exact ev_ob_621) rfl ?_
      intro x19 hx19
      refine ev_r_iload_n (pc := 60) (k := 1) (v := Int32.ofInt a0) (by decide +kernel) (by exact e11) ?_
      refine ev_r_icmp (pc := 61) (q := .eq) (o := 12) (t := 73) (c := x19 = a0) (by decide +kernel) (ev_k_eq hx19 ha0) (by decide +kernel) ?_ ?_
      · intro c20
        refine ev_r_aload_n (pc := 73) (k := 0) (v := .ref 621) trivial (by decide +kernel) (by exact e10) ?_
        refine ev_r_iconst (pc := 74) (k := 1) (by decide +kernel) ?_
        refine ev_r_putI (pc := 75) (y := 352) (ci := 13) (f := 25) (by decide) (by decide +kernel) (by decide +kernel) (by exact ev_ob_621) rfl (ev_fit_bl (by decide : ev_bl 1)) ?_
        intro s21
        exact ev_r_return (pc := 78) (x := ()) trivial (by decide +kernel) (by decide +kernel) rfl
      · intro c20
        refine ev_r_aload_n (pc := 64) (k := 0) (v := .ref 621) trivial (by decide +kernel) (by exact e10) ?_
        refine ev_r_getI (pc := 65) (y := 349) (ci := 13) (f := 28) (fin := 0) (by decide +kernel) (by decide +kernel) (by exact ev_ob_621) rfl ?_
        intro x22 hx22
        refine ev_r_bipush (pc := 68) (k := 27) (by decide +kernel) (by decide +kernel) ?_
        refine ev_r_icmp (pc := 70) (q := .ne) (o := 9) (t := 79) (c := x22 ≠ 27) (by decide +kernel) (ev_k_ne hx22 (by decide)) (by decide +kernel) ?_ ?_
        · intro c23
          refine ev_r_aload_n (pc := 79) (k := 0) (v := .ref 621) trivial (by decide +kernel) (by exact e10) ?_
          refine ev_r_aload_n (pc := 80) (k := 0) (v := .ref 621) trivial (by decide +kernel) (by exact e10) ?_
          refine ev_r_bipush (pc := 81) (k := 9) (by decide +kernel) (by decide +kernel) ?_
          refine ev_r_virt (pc := 83) (y := 378) (mi := 237) (na := 1) (k := 621) (as := [.int (Int32.ofInt 9)]) (rest := [.ref 621]) (encc := ev_oI) (Q := ev_rng) (fun x S1 h => jt_237 d (by omega) Q 9 (by decide) s14 x S1 h) (by exact ev_ob_621) (by decide +kernel) (by decide +kernel) (by decide +kernel) (by decide +kernel) rfl (by (try simp only [ev_sum, ev_nv_cat]); first | done | rfl) ?_
          intro x25 s24 hx25
          show ev_w _ _ _ _ _ [.int (Int32.ofInt x25), .ref 621] _ _ _ _
          refine ev_r_iconst (pc := 86) (k := 1) (by decide +kernel) ?_
          refine ev_r_virt (pc := 87) (y := 456) (mi := 239) (na := 2) (k := 621) (as := [.int (Int32.ofInt x25), .int (Int32.ofInt 1)]) (rest := []) (encc := ev_oU) (Q := ev_PU) (fun x S1 h => jt_239 d (by omega) Q x25 1 hx25 (by decide) s24 x S1 h) (by exact ev_ob_621) (by decide +kernel) (by decide +kernel) (by decide +kernel) (by decide +kernel) rfl (by (try simp only [ev_sum, ev_nv_cat]); first | done | rfl) ?_
          intro _ s26 _
          show ev_w _ _ _ _ _ [] _ _ _ _
          refine ev_r_aload_n (pc := 90) (k := 0) (v := .ref 621) trivial (by decide +kernel) (by exact e10) ?_
          refine ev_r_dup (pc := 91) rfl (by decide +kernel) ?_
          refine ev_r_getI (pc := 92) (y := 349) (ci := 13) (f := 28) (fin := 0) (by decide +kernel) (by decide +kernel) (by exact ev_ob_621) rfl ?_
          intro x27 hx27
          refine ev_r_iconst (pc := 95) (k := 1) (by decide +kernel) ?_
          refine ev_r_iadd (pc := 96) (by decide +kernel) ?_
          intro x28 hx28
          refine ev_r_putI (pc := 97) (y := 349) (ci := 13) (f := 28) hx28 (by decide +kernel) (by decide +kernel) (by exact ev_ob_621) rfl rfl ?_
          intro s29
          refine ev_r_aload_n (pc := 100) (k := 0) (v := .ref 621) trivial (by decide +kernel) (by exact e10) ?_
          refine ev_r_getC (pc := 101) (y := 77) (ci := 13) (f := 29) (fin := 1) (k' := 644) (by decide +kernel) (by decide +kernel) (by exact ev_ob_621) rfl rfl ?_
          refine ev_r_aload_n (pc := 104) (k := 0) (v := .ref 621) trivial (by decide +kernel) (by exact e10) ?_
          refine ev_r_getI (pc := 105) (y := 349) (ci := 13) (f := 28) (fin := 0) (by decide +kernel) (by decide +kernel) (by exact ev_ob_621) rfl ?_
          intro x30 hx30
          refine ev_r_iload_n (pc := 108) (k := 1) (v := Int32.ofInt a0) (by decide +kernel) (by exact e11) ?_
          refine ev_r_iast (pc := 109) ha0 hx30 (by decide +kernel) (by exact ev_ab_644) ?_
          intro s31
          refine ev_r_aload_n (pc := 110) (k := 0) (v := .ref 621) trivial (by decide +kernel) (by exact e10) ?_
          refine ev_r_getC (pc := 111) (y := 80) (ci := 13) (f := 30) (fin := 1) (k' := 645) (by decide +kernel) (by decide +kernel) (by exact ev_ob_621) rfl rfl ?_
          refine ev_r_aload_n (pc := 114) (k := 0) (v := .ref 621) trivial (by decide +kernel) (by exact e10) ?_
          refine ev_r_getI (pc := 115) (y := 349) (ci := 13) (f := 28) (fin := 0) (by decide +kernel) (by decide +kernel) (by exact ev_ob_621) rfl ?_
          intro x32 hx32
          refine ev_r_iconst (pc := 118) (k := 0) (by decide +kernel) ?_
          refine ev_r_iast (pc := 119) (by decide) hx32 (by decide +kernel) (by exact ev_ab_645) ?_
          intro s33
          exact ev_r_return (pc := 120) (x := ()) trivial (by decide +kernel) (by decide +kernel) rfl
        · intro c23
          refine ev_r_aload_n (pc := 73) (k := 0) (v := .ref 621) trivial (by decide +kernel) (by exact e10) ?_
          refine ev_r_iconst (pc := 74) (k := 1) (by decide +kernel) ?_
          refine ev_r_putI (pc := 75) (y := 352) (ci := 13) (f := 25) (by decide) (by decide +kernel) (by decide +kernel) (by exact ev_ob_621) rfl (ev_fit_bl (by decide : ev_bl 1)) ?_
          intro s34
          exact ev_r_return (pc := 78) (x := ()) trivial (by decide +kernel) (by decide +kernel) rfl
  · intro c16
    refine ev_r_iload_n (pc := 26) (k := 2) (v := Int32.ofInt x7) (by decide +kernel) (by exact e12) ?_
    refine ev_r_jn (Q := fun K => ∀ (x35 : Int) (hx35 : ev_rng x35), ∀ (s40 : ev_St) (w36 : List (Nat × Value)), ev_lk w36 0 = some (.ref 621) → ev_lk w36 1 = some (.int (Int32.ofInt a0)) → ev_lk w36 3 = some (.int (Int32.ofInt x8)) → ev_w none (ev_Mof 260) d 45 w36 [.int (Int32.ofInt x35)] s40 (K x35 s40) ev_eU ev_PU) ?_ ?_
    · intro x35 hx35 s40 w36 e37 e38 e39
      refine ev_r_istore_n (pc := 45) (k := 2) (by decide +kernel) (by decide +kernel) rfl ?_
      refine ev_r_iinc (pc := 46) (k := 3) (c := 1) (x := x8) (by decide +kernel) (by decide +kernel) (by exact (ev_l1 e39 (by decide) (by decide))) (fun _ => rfl) ?_
      intro x41 hx41
      refine ev_r_goto (pc := 49) (o := (-31)) (t := 18) (by decide +kernel) (by decide +kernel) ?_
      exact hK18 x35 hx35 x41 hx41 s40 _ (by exact (ev_l1 (ev_l1 e37 (by decide) (by decide)) (by decide) (by decide))) (by exact (ev_l1 (ev_lk_st1 e38 (by decide) rfl) (by decide) (by decide))) (by exact (ev_lk_st1 ev_lk_st1_self (by decide) rfl)) (by exact ev_lk_st1_self)
    · intro K45 hK45
      refine ev_r_jn (Q := fun K => ∀ (s46 : ev_St) (w42 : List (Nat × Value)), ev_lk w42 0 = some (.ref 621) → ev_lk w42 1 = some (.int (Int32.ofInt a0)) → ev_lk w42 3 = some (.int (Int32.ofInt x8)) → ev_w none (ev_Mof 260) d 44 w42 [] s46 (K  s46) ev_eU ev_PU) ?_ ?_
      · intro  s46 w42 e43 e44 e45
        refine ev_r_iconst (pc := 44) (k := 0) (by decide +kernel) ?_
        exact hK45 0 (by decide) s46 _ (by exact e43) (by exact e44) (by exact e45)
      · intro K44 hK44
        refine ev_r_if (pc := 27) (q := .eq) (o := 17) (t := 44) (c := x7 = 0) (by decide +kernel) (ev_k_eq hx7 ev_rng0) (by decide +kernel) ?_ ?_
        · intro c47
          exact hK44  s14 _ (by exact e10) (by exact e11) (by exact e13)
        · intro c47
          refine ev_r_aload_n (pc := 30) (k := 0) (v := .ref 621) trivial (by decide +kernel) (by exact e10) ?_
          refine ev_r_getC (pc := 31) (y := 77) (ci := 13) (f := 29) (fin := 1) (k' := 644) (by decide +kernel) (by decide +kernel) (by exact ev_ob_621) rfl rfl ?_
          refine ev_r_iload_n (pc := 34) (k := 3) (v := Int32.ofInt x8) (by decide +kernel) (by exact e13) ?_
          refine ev_r_iald (pc := 35) hx8 (by decide +kernel) (by exact ev_ab_644) ?_
          intro x48 hx48
          refine ev_r_iload_n (pc := 36) (k := 1) (v := Int32.ofInt a0) (by decide +kernel) (by exact e11) ?_
          refine ev_r_icmp (pc := 37) (q := .eq) (o := 7) (t := 44) (c := x48 = a0) (by decide +kernel) (ev_k_eq hx48 ha0) (by decide +kernel) ?_ ?_
          · intro c49
            exact hK44  s14 _ (by exact e10) (by exact e11) (by exact e13)
          · intro c49
            refine ev_r_iconst (pc := 40) (k := 1) (by decide +kernel) ?_
            refine ev_r_goto (pc := 41) (o := 4) (t := 45) (by decide +kernel) (by decide +kernel) ?_
            exact hK45 1 (by decide) s14 _ (by exact e10) (by exact e11) (by exact e13)
theorem jlt_260_18 (d : Nat) (hd : 4 ≤ d + 1) (Q : Nat) (a0 : Int) (ha0 : ev_rng a0)   : ∀ q : Nat, ∀ (x7 : Int) (hx7 : ev_rng x7), ∀ (x8 : Int) (hx8 : ev_rng x8), ∀ (s14 : ev_St) (w9 : List (Nat × Value)), ev_lk w9 0 = some (.ref 621) → ev_lk w9 1 = some (.int (Int32.ofInt a0)) → ev_lk w9 2 = some (.int (Int32.ofInt x7)) → ev_lk w9 3 = some (.int (Int32.ofInt x8)) → ev_w none (ev_Mof 260) d 18 w9 [] s14 (jl_260_18 Q a0  q x7 x8 s14) ev_eU ev_PU := by
  intro q
  induction q with
  | zero =>
    intro x7 hx7 x8 hx8 s14 w9 e10 e11 e12 e13
    exact ev_w_none
  | succ q ih => exact jbt_260_18 d hd Q a0 ha0   _ ih
/-- MendBenchModel.includes(I)V -/
def jm_260 (Q : Nat) (a0 : Int) (S : ev_St) : Option ((Unit) × ev_St) := ev_if ((0 : Int) ≤ a0 ∧ a0 < (ev_aln 623 : Int)) (ev_b (S.1 623 (Int.toNat a0)) fun x1 => ev_jn (fun (x2 : Int) (s6 : ev_St) => jl_260_18 Q a0  Q x2 0 s6) fun K15 => if x1 = (-1) then (K15 0 S) else (K15 1 S))
theorem jt_260 (d : Nat) (hd : 4 ≤ d) (Q : Nat) (a0 : Int) (ha0 : ev_rng a0) (S : ev_St) (x : Unit) (S' : ev_St) (hJ : jm_260 Q a0 S = some (x, S')) : ev_Ref d 260 [.ref 621, .int (Int32.ofInt a0)] S (ev_eU x) S' (ev_PU x) := by
  obtain ⟨d, rfl⟩ : ∃ e, d = e + 1 := ⟨d - 1, by omega⟩
  refine ev_ref_of (P := ev_PU) (lv := [(0, .ref 621), (1, .int (Int32.ofInt a0))]) (by decide +kernel) (by (try simp only [ev_sum, ev_nv_cat]); first | done | rfl) (by (try simp only [lv_args, ev_nv_cat]); first | done | rfl) ?_ x S' hJ
  unfold jm_260
  refine ev_r_aload_n (pc := 0) (k := 0) (v := .ref 621) trivial (by decide +kernel) (by rfl) ?_
  refine ev_r_getC (pc := 1) (y := 13) (ci := 13) (f := 3) (fin := 1) (k' := 623) (by decide +kernel) (by decide +kernel) (by exact ev_ob_621) rfl rfl ?_
  refine ev_r_iload_n (pc := 4) (k := 1) (v := Int32.ofInt a0) (by decide +kernel) (by rfl) ?_
  refine ev_r_iald (pc := 5) ha0 (by decide +kernel) (by exact ev_ab_623) ?_
  intro x1 hx1
  refine ev_r_iconst (pc := 6) (k := -1) (by decide +kernel) ?_
  refine ev_r_jn (Q := fun K => ∀ (x2 : Int) (hx2 : ev_rng x2), ∀ (s6 : ev_St) (w3 : List (Nat × Value)), ev_lk w3 0 = some (.ref 621) → ev_lk w3 1 = some (.int (Int32.ofInt a0)) → ev_w none (ev_Mof 260) d 15 w3 [.int (Int32.ofInt x2)] s6 (K x2 s6) ev_eU ev_PU) ?_ ?_
  · intro x2 hx2 s6 w3 e4 e5
    refine ev_r_istore_n (pc := 15) (k := 2) (by decide +kernel) (by decide +kernel) rfl ?_
    refine ev_r_iconst (pc := 16) (k := 0) (by decide +kernel) ?_
    refine ev_r_istore_n (pc := 17) (k := 3) (by decide +kernel) (by decide +kernel) rfl ?_
    exact jlt_260_18 d hd Q a0 ha0   Q x2 hx2 0 (by decide) s6 _ (by exact (ev_l1 (ev_l1 e4 (by decide) (by decide)) (by decide) (by decide))) (by exact (ev_l1 (ev_lk_st1 e5 (by decide) rfl) (by decide) (by decide))) (by exact (ev_lk_st1 ev_lk_st1_self (by decide) rfl)) (by exact ev_lk_st1_self)
  · intro K15 hK15
    refine ev_r_icmp (pc := 7) (q := .eq) (o := 7) (t := 14) (c := x1 = (-1)) (by decide +kernel) (ev_k_eq hx1 (by decide)) (by decide +kernel) ?_ ?_
    · intro c50
      refine ev_r_iconst (pc := 14) (k := 0) (by decide +kernel) ?_
      exact hK15 0 (by decide) S _ (by rfl) (by rfl)
    · intro c50
      refine ev_r_iconst (pc := 10) (k := 1) (by decide +kernel) ?_
      refine ev_r_goto (pc := 11) (o := 4) (t := 15) (by decide +kernel) (by decide +kernel) ?_
      exact hK15 1 (by decide) S _ (by rfl) (by rfl)
/-- MendBenchModel.asks()V -/
def jm_261 (Q : Nat)  (S : ev_St) : Option ((Unit) × ev_St) := ev_bd (jm_233 Q 0 S) fun x2 s1 => ev_bd (jm_233 Q 1 s1) fun x4 s3 => ev_bd (jm_233 Q 2 s3) fun x6 s5 => ev_jn (fun (x7 : Int) (x8 : Int) (x9 : Int) (s15 : ev_St) => if x7 ≠ 60 then (ev_jn (fun  (s20 : ev_St) => ev_bd (jm_234 Q 1 s20) fun _ s21 => ev_jn (fun (x22 : Int) (s26 : ev_St) => ev_bd (jm_237 Q x22 s26) fun x28 s27 => ev_bd (jm_232 Q  s27) fun x30 s29 => ev_ck (x30 + x28) fun x31 => ev_jn (fun (x32 : Int) (x35 : Int) (x34 : Int) (r33 : Nat) (s39 : ev_St) => ev_if ((0 : Int) ≤ x34 ∧ x34 < (ev_aln r33 : Int)) (ev_b (ev_pI s39 r33 (Int.toNat x34) x35) fun s40 => ev_bd (jm_239 Q x32 0 s40) fun _ s41 => some ((), s41))) fun K221 => if x7 ≠ 33 then (K221 x28 0 x31 629 s29) else (K221 x28 1 x31 629 s29)) fun K194 => if x7 ≠ 58 then (if x7 ≠ 62 then (K194 11 s21) else (K194 10 s21)) else (K194 9 s21)) fun K164 => if x7 = 58 then (K164  s15) else (if x7 = 62 then (K164  s15) else (if x7 = 61 then (K164  s15) else (if x7 ≠ 33 then (if x7 ≠ 40 then (ev_bd (jm_226 Q x7 s15) fun x51 s50 => if x51 = 0 then (if x7 ≠ 38 then (ev_bd (jm_258 Q  s50) fun _ s54 => some ((), s54)) else (ev_b (s50.1 621 25) fun x55 => ev_jn (fun (x56 : Int) (s60 : ev_St) => ev_if (ev_bl x56) (ev_b (ev_pI s60 621 25 x56) fun s61 => ev_bd (jm_234 Q 3 s61) fun _ s63 => ev_b (s63.1 621 25) fun x64 => if x64 ≠ 0 then (some ((), s63)) else (ev_ck (x8 - 97) fun x66 => ev_bd (jm_260 Q x66 s63) fun _ s67 => some ((), s67)))) fun K403 => ev_jn (fun  (s71 : ev_St) => K403 1 s71) fun K398 => if x55 ≠ 0 then (K398  s50) else (ev_bd (jm_224 Q x8 s50) fun x74 s73 => if x74 = 0 then (K398  s73) else (if x9 = 41 then (K403 0 s73) else (K398  s73))))) else (ev_b (s50.1 621 25) fun x77 => ev_jn (fun (x78 : Int) (s82 : ev_St) => ev_if (ev_bl x78) (ev_b (ev_pI s82 621 25 x78) fun s83 => ev_bd (jm_234 Q 2 s83) fun _ s85 => ev_bd (jm_237 Q 14 s85) fun x87 s86 => ev_bd (jm_232 Q  s86) fun x89 s88 => ev_ck (x89 + x87) fun x90 => ev_ck (x7 - 48) fun x91 => ev_if ((0 : Int) ≤ x90 ∧ x90 < (ev_aln 628 : Int)) (ev_b (ev_pI s88 628 (Int.toNat x90) x91) fun s92 => some ((), s92)))) fun K336 => ev_jn (fun  (s96 : ev_St) => K336 1 s96) fun K331 => if x77 ≠ 0 then (K331  s50) else (if x8 = 41 then (K336 0 s50) else (K331  s50)))) else (ev_b (s15.1 621 25) fun x99 => ev_jn (fun (x100 : Int) (s104 : ev_St) => ev_if (ev_bl x100) (ev_b (ev_pI s104 621 25 x100) fun s105 => ev_bd (jm_234 Q 3 s105) fun _ s107 => ev_bd (jm_237 Q 13 s107) fun x109 s108 => ev_bd (jm_232 Q  s108) fun x111 s110 => ev_ck (x111 + x109) fun x112 => ev_ck (x8 - 48) fun x113 => ev_if ((0 : Int) ≤ x112 ∧ x112 < (ev_aln 628 : Int)) (ev_b (ev_pI s110 628 (Int.toNat x112) x113) fun s114 => ev_bd (jm_239 Q x109 0 s114) fun _ s115 => some ((), s115)))) fun K268 => ev_jn (fun  (s119 : ev_St) => K268 1 s119) fun K263 => if x99 ≠ 0 then (K263  s15) else (ev_bd (jm_222 Q x8 49 57 s15) fun x122 s121 => if x122 = 0 then (K263  s121) else (if x9 = 41 then (K268 0 s121) else (K263  s121))))) else (K164  s15))))) else (ev_b (s15.1 621 25) fun x125 => ev_jn (fun (x126 : Int) (s130 : ev_St) => ev_if (ev_bl x126) (ev_b (ev_pI s130 621 25 x126) fun s131 => ev_bd (jm_234 Q 3 s131) fun _ s133 => ev_b (s133.1 621 25) fun x134 => if x134 ≠ 0 then (some ((), s133)) else (ev_ck (x8 - 97) fun x136 => ev_bd (jm_259 Q x136 s133) fun _ s137 => some ((), s137)))) fun K114 => ev_jn (fun  (s141 : ev_St) => K114 1 s141) fun K109 => if x125 ≠ 0 then (K109  s15) else (ev_bd (jm_224 Q x8 s15) fun x144 s143 => if x144 = 0 then (K109  s143) else (if x9 = 62 then (K114 0 s143) else (K109  s143))))) fun K82 => if x2 ≠ 60 then (K82 x2 x4 x6 s5) else (ev_jn (fun  (s151 : ev_St) => ev_bd (jm_234 Q 2 s151) fun _ s152 => ev_bd (jm_237 Q 12 s152) fun x154 s153 => ev_bd (jm_232 Q  s153) fun x156 s155 => ev_ck (x156 + x154) fun x157 => ev_jn (fun (x158 : Int) (x161 : Int) (x160 : Int) (r159 : Nat) (s165 : ev_St) => ev_if ((0 : Int) ≤ x160 ∧ x160 < (ev_aln r159 : Int)) (ev_b (ev_pI s165 r159 (Int.toNat x160) x161) fun s166 => ev_bd (jm_239 Q x158 0 s166) fun _ s167 => some ((), s167))) fun K71 => if x4 ≠ 33 then (K71 x154 0 x157 629 s155) else (K71 x154 1 x157 629 s155)) fun K36 => if x4 = 61 then (K36  s5) else (if x4 ≠ 33 then (K82 x2 x4 x6 s5) else (K36  s5)))
theorem jt_261 (d : Nat) (hd : 5 ≤ d) (Q : Nat)   (S : ev_St) (x : Unit) (S' : ev_St) (hJ : jm_261 Q  S = some (x, S')) : ev_Ref d 261 [.ref 621] S (ev_eU x) S' (ev_PU x) := by
  obtain ⟨d, rfl⟩ : ∃ e, d = e + 1 := ⟨d - 1, by omega⟩
  refine ev_ref_of (P := ev_PU) (lv := [(0, .ref 621)]) (by decide +kernel) (by (try simp only [ev_sum, ev_nv_cat]); first | done | rfl) (by (try simp only [lv_args, ev_nv_cat]); first | done | rfl) ?_ x S' hJ
  unfold jm_261
  refine ev_r_aload_n (pc := 0) (k := 0) (v := .ref 621) trivial (by decide +kernel) (by rfl) ?_
  refine ev_r_iconst (pc := 1) (k := 0) (by decide +kernel) ?_
  refine ev_r_virt (pc := 2) (y := 409) (mi := 233) (na := 1) (k := 621) (as := [.int (Int32.ofInt 0)]) (rest := []) (encc := ev_oI) (Q := ev_rng) (fun x S1 h => jt_233 d (by omega) Q 0 (by decide) S x S1 h) (by exact ev_ob_621) (by decide +kernel) (by decide +kernel) (by decide +kernel) (by decide +kernel) rfl (by (try simp only [ev_sum, ev_nv_cat]); first | done | rfl) ?_
  intro x2 s1 hx2
  show ev_w _ _ _ _ _ [.int (Int32.ofInt x2)] _ _ _ _
  refine ev_r_istore_n (pc := 5) (k := 1) (by decide +kernel) (by decide +kernel) rfl ?_
  refine ev_r_aload_n (pc := 6) (k := 0) (v := .ref 621) trivial (by decide +kernel) (by exact (ev_lk_st1 (by rfl) (by decide) rfl)) ?_
  refine ev_r_iconst (pc := 7) (k := 1) (by decide +kernel) ?_
  refine ev_r_virt (pc := 8) (y := 409) (mi := 233) (na := 1) (k := 621) (as := [.int (Int32.ofInt 1)]) (rest := []) (encc := ev_oI) (Q := ev_rng) (fun x S1 h => jt_233 d (by omega) Q 1 (by decide) s1 x S1 h) (by exact ev_ob_621) (by decide +kernel) (by decide +kernel) (by decide +kernel) (by decide +kernel) rfl (by (try simp only [ev_sum, ev_nv_cat]); first | done | rfl) ?_
  intro x4 s3 hx4
  show ev_w _ _ _ _ _ [.int (Int32.ofInt x4)] _ _ _ _
  refine ev_r_istore_n (pc := 11) (k := 2) (by decide +kernel) (by decide +kernel) rfl ?_
  refine ev_r_aload_n (pc := 12) (k := 0) (v := .ref 621) trivial (by decide +kernel) (by exact (ev_l1 (ev_lk_st1 (by rfl) (by decide) rfl) (by decide) (by decide))) ?_
  refine ev_r_iconst (pc := 13) (k := 2) (by decide +kernel) ?_
  refine ev_r_virt (pc := 14) (y := 409) (mi := 233) (na := 1) (k := 621) (as := [.int (Int32.ofInt 2)]) (rest := []) (encc := ev_oI) (Q := ev_rng) (fun x S1 h => jt_233 d (by omega) Q 2 (by decide) s3 x S1 h) (by exact ev_ob_621) (by decide +kernel) (by decide +kernel) (by decide +kernel) (by decide +kernel) rfl (by (try simp only [ev_sum, ev_nv_cat]); first | done | rfl) ?_
  intro x6 s5 hx6
  show ev_w _ _ _ _ _ [.int (Int32.ofInt x6)] _ _ _ _
  refine ev_r_istore_n (pc := 17) (k := 3) (by decide +kernel) (by decide +kernel) rfl ?_
  refine ev_r_iload_n (pc := 18) (k := 1) (v := Int32.ofInt x2) (by decide +kernel) (by exact (ev_l1 (ev_lk_st1 ev_lk_st1_self (by decide) rfl) (by decide) (by decide))) ?_
  refine ev_r_bipush (pc := 19) (k := 60) (by decide +kernel) (by decide +kernel) ?_
  refine ev_r_jn (Q := fun K => ∀ (x7 : Int) (hx7 : ev_rng x7), ∀ (x8 : Int) (hx8 : ev_rng x8), ∀ (x9 : Int) (hx9 : ev_rng x9), ∀ (s15 : ev_St) (w10 : List (Nat × Value)), ev_lk w10 0 = some (.ref 621) → ev_lk w10 1 = some (.int (Int32.ofInt x7)) → ev_lk w10 2 = some (.int (Int32.ofInt x8)) → ev_lk w10 3 = some (.int (Int32.ofInt x9)) → ev_w none (ev_Mof 261) d 82 w10 [] s15 (K x7 x8 x9 s15) ev_eU ev_PU) ?_ ?_
  · intro x7 hx7 x8 hx8 x9 hx9 s15 w10 e11 e12 e13 e14
    refine ev_r_iload_n (pc := 82) (k := 1) (v := Int32.ofInt x7) (by decide +kernel) (by exact e12) ?_
    refine ev_r_bipush (pc := 83) (k := 60) (by decide +kernel) (by decide +kernel) ?_
    refine ev_r_icmp (pc := 85) (q := .ne) (o := 55) (t := 140) (c := x7 ≠ 60) (by decide +kernel) (ev_k_ne hx7 (by decide)) (by decide +kernel) ?_ ?_
    · intro c16
      refine ev_r_iload_n (pc := 140) (k := 1) (v := Int32.ofInt x7) (by decide +kernel) (by exact e12) ?_
      refine ev_r_bipush (pc := 141) (k := 58) (by decide +kernel) (by decide +kernel) ?_
      refine ev_r_jn (Q := fun K => ∀ (s20 : ev_St) (w17 : List (Nat × Value)), ev_lk w17 0 = some (.ref 621) → ev_lk w17 1 = some (.int (Int32.ofInt x7)) → ev_w none (ev_Mof 261) d 164 w17 [] s20 (K  s20) ev_eU ev_PU) ?_ ?_
      · intro  s20 w17 e18 e19
        refine ev_r_aload_n (pc := 164) (k := 0) (v := .ref 621) trivial (by decide +kernel) (by exact e18) ?_
        refine ev_r_iconst (pc := 165) (k := 1) (by decide +kernel) ?_
        refine ev_r_virt (pc := 166) (y := 415) (mi := 234) (na := 1) (k := 621) (as := [.int (Int32.ofInt 1)]) (rest := []) (encc := ev_oU) (Q := ev_PU) (fun x S1 h => jt_234 d (by omega) Q 1 (by decide) s20 x S1 h) (by exact ev_ob_621) (by decide +kernel) (by decide +kernel) (by decide +kernel) (by decide +kernel) rfl (by (try simp only [ev_sum, ev_nv_cat]); first | done | rfl) ?_
        intro _ s21 _
        show ev_w _ _ _ _ _ [] _ _ _ _
        refine ev_r_aload_n (pc := 169) (k := 0) (v := .ref 621) trivial (by decide +kernel) (by exact e18) ?_
        refine ev_r_iload_n (pc := 170) (k := 1) (v := Int32.ofInt x7) (by decide +kernel) (by exact e19) ?_
        refine ev_r_bipush (pc := 171) (k := 58) (by decide +kernel) (by decide +kernel) ?_
        refine ev_r_jn (Q := fun K => ∀ (x22 : Int) (hx22 : ev_rng x22), ∀ (s26 : ev_St) (w23 : List (Nat × Value)), ev_lk w23 0 = some (.ref 621) → ev_lk w23 1 = some (.int (Int32.ofInt x7)) → ev_w none (ev_Mof 261) d 194 w23 [.int (Int32.ofInt x22), .ref 621] s26 (K x22 s26) ev_eU ev_PU) ?_ ?_
        · intro x22 hx22 s26 w23 e24 e25
          refine ev_r_virt (pc := 194) (y := 378) (mi := 237) (na := 1) (k := 621) (as := [.int (Int32.ofInt x22)]) (rest := []) (encc := ev_oI) (Q := ev_rng) (fun x S1 h => jt_237 d (by omega) Q x22 hx22 s26 x S1 h) (by exact ev_ob_621) (by decide +kernel) (by decide +kernel) (by decide +kernel) (by decide +kernel) rfl (by (try simp only [ev_sum, ev_nv_cat]); first | done | rfl) ?_
          intro x28 s27 hx28
          show ev_w _ _ _ _ _ [.int (Int32.ofInt x28)] _ _ _ _
          refine ev_r_istore (pc := 197) (k := 4) (by decide +kernel) (by decide +kernel) rfl ?_
          refine ev_r_aload_n (pc := 199) (k := 0) (v := .ref 621) trivial (by decide +kernel) (by exact (ev_l1 e24 (by decide) (by decide))) ?_
          refine ev_r_getC (pc := 200) (y := 31) (ci := 13) (f := 10) (fin := 1) (k' := 629) (by decide +kernel) (by decide +kernel) (by exact ev_ob_621) rfl rfl ?_
          refine ev_r_aload_n (pc := 203) (k := 0) (v := .ref 621) trivial (by decide +kernel) (by exact (ev_l1 e24 (by decide) (by decide))) ?_
          refine ev_r_virt (pc := 204) (y := 356) (mi := 232) (na := 0) (k := 621) (as := []) (rest := [.ref 629]) (encc := ev_oI) (Q := ev_rng) (fun x S1 h => jt_232 d (by omega) Q   s27 x S1 h) (by exact ev_ob_621) (by decide +kernel) (by decide +kernel) (by decide +kernel) (by decide +kernel) rfl (by (try simp only [ev_sum, ev_nv_cat]); first | done | rfl) ?_
          intro x30 s29 hx30
          show ev_w _ _ _ _ _ [.int (Int32.ofInt x30), .ref 629] _ _ _ _
          refine ev_r_iload (pc := 207) (k := 4) (v := Int32.ofInt x28) (by decide +kernel) (by exact ev_lk_st1_self) ?_
          refine ev_r_iadd (pc := 209) (by decide +kernel) ?_
          intro x31 hx31
          refine ev_r_iload_n (pc := 210) (k := 1) (v := Int32.ofInt x7) (by decide +kernel) (by exact (ev_l1 e25 (by decide) (by decide))) ?_
          refine ev_r_bipush (pc := 211) (k := 33) (by decide +kernel) (by decide +kernel) ?_
          refine ev_r_jn (Q := fun K => ∀ (x32 : Int) (hx32 : ev_rng x32), ∀ (x35 : Int) (hx35 : ev_rng x35), ∀ (x34 : Int) (hx34 : ev_rng x34), ∀ (r33 : Nat) (hr33 : ev_isAb r33 1 .int = true), ∀ (s39 : ev_St) (w36 : List (Nat × Value)), ev_lk w36 0 = some (.ref 621) → ev_lk w36 4 = some (.int (Int32.ofInt x32)) → ev_w none (ev_Mof 261) d 221 w36 [.int (Int32.ofInt x35), .int (Int32.ofInt x34), .ref r33] s39 (K x32 x35 x34 r33 s39) ev_eU ev_PU) ?_ ?_
          · intro x32 hx32 x35 hx35 x34 hx34 r33 hr33 s39 w36 e37 e38
            refine ev_r_iast (pc := 221) hx35 hx34 (by decide +kernel) (by exact hr33) ?_
            intro s40
            refine ev_r_aload_n (pc := 222) (k := 0) (v := .ref 621) trivial (by decide +kernel) (by exact e37) ?_
            refine ev_r_iload (pc := 223) (k := 4) (v := Int32.ofInt x32) (by decide +kernel) (by exact e38) ?_
            refine ev_r_iconst (pc := 225) (k := 0) (by decide +kernel) ?_
            refine ev_r_virt (pc := 226) (y := 456) (mi := 239) (na := 2) (k := 621) (as := [.int (Int32.ofInt x32), .int (Int32.ofInt 0)]) (rest := []) (encc := ev_oU) (Q := ev_PU) (fun x S1 h => jt_239 d (by omega) Q x32 0 hx32 (by decide) s40 x S1 h) (by exact ev_ob_621) (by decide +kernel) (by decide +kernel) (by decide +kernel) (by decide +kernel) rfl (by (try simp only [ev_sum, ev_nv_cat]); first | done | rfl) ?_
            intro _ s41 _
            show ev_w _ _ _ _ _ [] _ _ _ _
            refine ev_r_goto (pc := 229) (o := 204) (t := 433) (by decide +kernel) (by decide +kernel) ?_
            exact ev_r_return (pc := 433) (x := ()) trivial (by decide +kernel) (by decide +kernel) rfl
          · intro K221 hK221
            refine ev_r_icmp (pc := 213) (q := .ne) (o := 7) (t := 220) (c := x7 ≠ 33) (by decide +kernel) (ev_k_ne hx7 (by decide)) (by decide +kernel) ?_ ?_
            · intro c42
              refine ev_r_iconst (pc := 220) (k := 0) (by decide +kernel) ?_
              exact hK221 x28 hx28 0 (by decide) x31 hx31 629 ev_ab_629 s29 _ (by exact (ev_l1 e24 (by decide) (by decide))) (by exact ev_lk_st1_self)
            · intro c42
              refine ev_r_iconst (pc := 216) (k := 1) (by decide +kernel) ?_
              refine ev_r_goto (pc := 217) (o := 4) (t := 221) (by decide +kernel) (by decide +kernel) ?_
              exact hK221 x28 hx28 1 (by decide) x31 hx31 629 ev_ab_629 s29 _ (by exact (ev_l1 e24 (by decide) (by decide))) (by exact ev_lk_st1_self)
        · intro K194 hK194
          refine ev_r_icmp (pc := 173) (q := .ne) (o := 8) (t := 181) (c := x7 ≠ 58) (by decide +kernel) (ev_k_ne hx7 (by decide)) (by decide +kernel) ?_ ?_
          · intro c43
            refine ev_r_iload_n (pc := 181) (k := 1) (v := Int32.ofInt x7) (by decide +kernel) (by exact e19) ?_
            refine ev_r_bipush (pc := 182) (k := 62) (by decide +kernel) (by decide +kernel) ?_
            refine ev_r_icmp (pc := 184) (q := .ne) (o := 8) (t := 192) (c := x7 ≠ 62) (by decide +kernel) (ev_k_ne hx7 (by decide)) (by decide +kernel) ?_ ?_
            · intro c44
              refine ev_r_bipush (pc := 192) (k := 11) (by decide +kernel) (by decide +kernel) ?_
              exact hK194 11 (by decide) s21 _ (by exact e18) (by exact e19)
            · intro c44
              refine ev_r_bipush (pc := 187) (k := 10) (by decide +kernel) (by decide +kernel) ?_
              refine ev_r_goto (pc := 189) (o := 5) (t := 194) (by decide +kernel) (by decide +kernel) ?_
              exact hK194 10 (by decide) s21 _ (by exact e18) (by exact e19)
          · intro c43
            refine ev_r_bipush (pc := 176) (k := 9) (by decide +kernel) (by decide +kernel) ?_
            refine ev_r_goto (pc := 178) (o := 16) (t := 194) (by decide +kernel) (by decide +kernel) ?_
            exact hK194 9 (by decide) s21 _ (by exact e18) (by exact e19)
      · intro K164 hK164
        refine ev_r_icmp (pc := 143) (q := .eq) (o := 21) (t := 164) (c := x7 = 58) (by decide +kernel) (ev_k_eq hx7 (by decide)) (by decide +kernel) ?_ ?_
        · intro c45
          exact hK164  s15 _ (by exact e11) (by exact e12)
        · intro c45
          refine ev_r_iload_n (pc := 146) (k := 1) (v := Int32.ofInt x7) (by decide +kernel) (by exact e12) ?_
          refine ev_r_bipush (pc := 147) (k := 62) (by decide +kernel) (by decide +kernel) ?_
          refine ev_r_icmp (pc := 149) (q := .eq) (o := 15) (t := 164) (c := x7 = 62) (by decide +kernel) (ev_k_eq hx7 (by decide)) (by decide +kernel) ?_ ?_
          · intro c46
            exact hK164  s15 _ (by exact e11) (by exact e12)
          · intro c46
            refine ev_r_iload_n (pc := 152) (k := 1) (v := Int32.ofInt x7) (by decide +kernel) (by exact e12) ?_
            refine ev_r_bipush (pc := 153) (k := 61) (by decide +kernel) (by decide +kernel) ?_
            refine ev_r_icmp (pc := 155) (q := .eq) (o := 9) (t := 164) (c := x7 = 61) (by decide +kernel) (ev_k_eq hx7 (by decide)) (by decide +kernel) ?_ ?_
            · intro c47
              exact hK164  s15 _ (by exact e11) (by exact e12)
            · intro c47
              refine ev_r_iload_n (pc := 158) (k := 1) (v := Int32.ofInt x7) (by decide +kernel) (by exact e12) ?_
              refine ev_r_bipush (pc := 159) (k := 33) (by decide +kernel) (by decide +kernel) ?_
              refine ev_r_icmp (pc := 161) (q := .ne) (o := 71) (t := 232) (c := x7 ≠ 33) (by decide +kernel) (ev_k_ne hx7 (by decide)) (by decide +kernel) ?_ ?_
              · intro c48
                refine ev_r_iload_n (pc := 232) (k := 1) (v := Int32.ofInt x7) (by decide +kernel) (by exact e12) ?_
                refine ev_r_bipush (pc := 233) (k := 40) (by decide +kernel) (by decide +kernel) ?_
                refine ev_r_icmp (pc := 235) (q := .ne) (o := 75) (t := 310) (c := x7 ≠ 40) (by decide +kernel) (ev_k_ne hx7 (by decide)) (by decide +kernel) ?_ ?_
                · intro c49
                  refine ev_r_iload_n (pc := 310) (k := 1) (v := Int32.ofInt x7) (by decide +kernel) (by exact e12) ?_
                  refine ev_r_stat (pc := 311) (y := 336) (kind := 2) (mi := 226) (na := 1) (as := [.int (Int32.ofInt x7)]) (rest := []) (encc := ev_oI) (Q := ev_bl) (fun x S1 h => jt_226 d (by omega) Q x7 hx7 s15 x S1 h) (Or.inl rfl) (by decide +kernel) (by decide +kernel) (by decide +kernel) (by decide +kernel) rfl (by (try simp only [ev_sum, ev_nv_cat]); first | done | rfl) ?_
                  intro x51 s50 hx51
                  replace hx51 := ev_bl_rng hx51
                  show ev_w _ _ _ _ _ [.int (Int32.ofInt x51)] _ _ _ _
                  refine ev_r_if (pc := 314) (q := .eq) (o := 57) (t := 371) (c := x51 = 0) (by decide +kernel) (ev_k_eq hx51 ev_rng0) (by decide +kernel) ?_ ?_
                  · intro c52
                    refine ev_r_iload_n (pc := 371) (k := 1) (v := Int32.ofInt x7) (by decide +kernel) (by exact e12) ?_
                    refine ev_r_bipush (pc := 372) (k := 38) (by decide +kernel) (by decide +kernel) ?_
                    refine ev_r_icmp (pc := 374) (q := .ne) (o := 55) (t := 429) (c := x7 ≠ 38) (by decide +kernel) (ev_k_ne hx7 (by decide)) (by decide +kernel) ?_ ?_
                    · intro c53
                      refine ev_r_aload_n (pc := 429) (k := 0) (v := .ref 621) trivial (by decide +kernel) (by exact e11) ?_
                      refine ev_r_virt (pc := 430) (y := 469) (mi := 258) (na := 0) (k := 621) (as := []) (rest := []) (encc := ev_oU) (Q := ev_PU) (fun x S1 h => jt_258 d (by omega) Q   s50 x S1 h) (by exact ev_ob_621) (by decide +kernel) (by decide +kernel) (by decide +kernel) (by decide +kernel) rfl (by (try simp only [ev_sum, ev_nv_cat]); first | done | rfl) ?_
                      intro _ s54 _
                      show ev_w _ _ _ _ _ [] _ _ _ _
                      exact ev_r_return (pc := 433) (x := ()) trivial (by decide +kernel) (by decide +kernel) rfl
                    · intro c53
                      refine ev_r_aload_n (pc := 377) (k := 0) (v := .ref 621) trivial (by decide +kernel) (by exact e11) ?_
                      refine ev_r_aload_n (pc := 378) (k := 0) (v := .ref 621) trivial (by decide +kernel) (by exact e11) ?_
                      refine ev_r_getI (pc := 379) (y := 352) (ci := 13) (f := 25) (fin := 0) (by decide +kernel) (by decide +kernel) (by exact ev_ob_621) rfl ?_
                      intro x55 hx55
                      refine ev_r_jn (Q := fun K => ∀ (x56 : Int) (hx56 : ev_rng x56), ∀ (s60 : ev_St) (w57 : List (Nat × Value)), ev_lk w57 0 = some (.ref 621) → ev_lk w57 2 = some (.int (Int32.ofInt x8)) → ev_w none (ev_Mof 261) d 403 w57 [.int (Int32.ofInt x56), .ref 621] s60 (K x56 s60) ev_eU ev_PU) ?_ ?_
                      · intro x56 hx56 s60 w57 e58 e59
                        refine ev_r_chk ?_
                        intro c62
                        refine ev_r_putI (pc := 403) (y := 352) (ci := 13) (f := 25) hx56 (by decide +kernel) (by decide +kernel) (by exact ev_ob_621) rfl (ev_fit_bl c62) ?_
                        intro s61
                        refine ev_r_aload_n (pc := 406) (k := 0) (v := .ref 621) trivial (by decide +kernel) (by exact e58) ?_
                        refine ev_r_iconst (pc := 407) (k := 3) (by decide +kernel) ?_
                        refine ev_r_virt (pc := 408) (y := 415) (mi := 234) (na := 1) (k := 621) (as := [.int (Int32.ofInt 3)]) (rest := []) (encc := ev_oU) (Q := ev_PU) (fun x S1 h => jt_234 d (by omega) Q 3 (by decide) s61 x S1 h) (by exact ev_ob_621) (by decide +kernel) (by decide +kernel) (by decide +kernel) (by decide +kernel) rfl (by (try simp only [ev_sum, ev_nv_cat]); first | done | rfl) ?_
                        intro _ s63 _
                        show ev_w _ _ _ _ _ [] _ _ _ _
                        refine ev_r_aload_n (pc := 411) (k := 0) (v := .ref 621) trivial (by decide +kernel) (by exact e58) ?_
                        refine ev_r_getI (pc := 412) (y := 352) (ci := 13) (f := 25) (fin := 0) (by decide +kernel) (by decide +kernel) (by exact ev_ob_621) rfl ?_
                        intro x64 hx64
                        refine ev_r_if (pc := 415) (q := .ne) (o := 18) (t := 433) (c := x64 ≠ 0) (by decide +kernel) (ev_k_ne hx64 ev_rng0) (by decide +kernel) ?_ ?_
                        · intro c65
                          exact ev_r_return (pc := 433) (x := ()) trivial (by decide +kernel) (by decide +kernel) rfl
                        · intro c65
                          refine ev_r_aload_n (pc := 418) (k := 0) (v := .ref 621) trivial (by decide +kernel) (by exact e58) ?_
                          refine ev_r_iload_n (pc := 419) (k := 2) (v := Int32.ofInt x8) (by decide +kernel) (by exact e59) ?_
                          refine ev_r_bipush (pc := 420) (k := 97) (by decide +kernel) (by decide +kernel) ?_
                          refine ev_r_isub (pc := 422) (by decide +kernel) ?_
                          intro x66 hx66
                          refine ev_r_virt (pc := 423) (y := 466) (mi := 260) (na := 1) (k := 621) (as := [.int (Int32.ofInt x66)]) (rest := []) (encc := ev_oU) (Q := ev_PU) (fun x S1 h => jt_260 d (by omega) Q x66 hx66 s63 x S1 h) (by exact ev_ob_621) (by decide +kernel) (by decide +kernel) (by decide +kernel) (by decide +kernel) rfl (by (try simp only [ev_sum, ev_nv_cat]); first | done | rfl) ?_
                          intro _ s67 _
                          show ev_w _ _ _ _ _ [] _ _ _ _
                          refine ev_r_goto (pc := 426) (o := 7) (t := 433) (by decide +kernel) (by decide +kernel) ?_
                          exact ev_r_return (pc := 433) (x := ()) trivial (by decide +kernel) (by decide +kernel) rfl
                      · intro K403 hK403
                        refine ev_r_jn (Q := fun K => ∀ (s71 : ev_St) (w68 : List (Nat × Value)), ev_lk w68 0 = some (.ref 621) → ev_lk w68 2 = some (.int (Int32.ofInt x8)) → ev_w none (ev_Mof 261) d 398 w68 [.ref 621] s71 (K  s71) ev_eU ev_PU) ?_ ?_
                        · intro  s71 w68 e69 e70
                          refine ev_r_iconst (pc := 398) (k := 1) (by decide +kernel) ?_
                          refine ev_r_goto (pc := 399) (o := 4) (t := 403) (by decide +kernel) (by decide +kernel) ?_
                          exact hK403 1 (by decide) s71 _ (by exact e69) (by exact e70)
                        · intro K398 hK398
                          refine ev_r_if (pc := 382) (q := .ne) (o := 16) (t := 398) (c := x55 ≠ 0) (by decide +kernel) (ev_k_ne hx55 ev_rng0) (by decide +kernel) ?_ ?_
                          · intro c72
                            exact hK398  s50 _ (by exact e11) (by exact e13)
                          · intro c72
                            refine ev_r_iload_n (pc := 385) (k := 2) (v := Int32.ofInt x8) (by decide +kernel) (by exact e13) ?_
                            refine ev_r_stat (pc := 386) (y := 329) (kind := 2) (mi := 224) (na := 1) (as := [.int (Int32.ofInt x8)]) (rest := [.ref 621]) (encc := ev_oI) (Q := ev_bl) (fun x S1 h => jt_224 d (by omega) Q x8 hx8 s50 x S1 h) (Or.inl rfl) (by decide +kernel) (by decide +kernel) (by decide +kernel) (by decide +kernel) rfl (by (try simp only [ev_sum, ev_nv_cat]); first | done | rfl) ?_
                            intro x74 s73 hx74
                            replace hx74 := ev_bl_rng hx74
                            show ev_w _ _ _ _ _ [.int (Int32.ofInt x74), .ref 621] _ _ _ _
                            refine ev_r_if (pc := 389) (q := .eq) (o := 9) (t := 398) (c := x74 = 0) (by decide +kernel) (ev_k_eq hx74 ev_rng0) (by decide +kernel) ?_ ?_
                            · intro c75
                              exact hK398  s73 _ (by exact e11) (by exact e13)
                            · intro c75
                              refine ev_r_iload_n (pc := 392) (k := 3) (v := Int32.ofInt x9) (by decide +kernel) (by exact e14) ?_
                              refine ev_r_bipush (pc := 393) (k := 41) (by decide +kernel) (by decide +kernel) ?_
                              refine ev_r_icmp (pc := 395) (q := .eq) (o := 7) (t := 402) (c := x9 = 41) (by decide +kernel) (ev_k_eq hx9 (by decide)) (by decide +kernel) ?_ ?_
                              · intro c76
                                refine ev_r_iconst (pc := 402) (k := 0) (by decide +kernel) ?_
                                exact hK403 0 (by decide) s73 _ (by exact e11) (by exact e13)
                              · intro c76
                                exact hK398  s73 _ (by exact e11) (by exact e13)
                  · intro c52
                    refine ev_r_aload_n (pc := 317) (k := 0) (v := .ref 621) trivial (by decide +kernel) (by exact e11) ?_
                    refine ev_r_aload_n (pc := 318) (k := 0) (v := .ref 621) trivial (by decide +kernel) (by exact e11) ?_
                    refine ev_r_getI (pc := 319) (y := 352) (ci := 13) (f := 25) (fin := 0) (by decide +kernel) (by decide +kernel) (by exact ev_ob_621) rfl ?_
                    intro x77 hx77
                    refine ev_r_jn (Q := fun K => ∀ (x78 : Int) (hx78 : ev_rng x78), ∀ (s82 : ev_St) (w79 : List (Nat × Value)), ev_lk w79 0 = some (.ref 621) → ev_lk w79 1 = some (.int (Int32.ofInt x7)) → ev_w none (ev_Mof 261) d 336 w79 [.int (Int32.ofInt x78), .ref 621] s82 (K x78 s82) ev_eU ev_PU) ?_ ?_
                    · intro x78 hx78 s82 w79 e80 e81
                      refine ev_r_chk ?_
                      intro c84
                      refine ev_r_putI (pc := 336) (y := 352) (ci := 13) (f := 25) hx78 (by decide +kernel) (by decide +kernel) (by exact ev_ob_621) rfl (ev_fit_bl c84) ?_
                      intro s83
                      refine ev_r_aload_n (pc := 339) (k := 0) (v := .ref 621) trivial (by decide +kernel) (by exact e80) ?_
                      refine ev_r_iconst (pc := 340) (k := 2) (by decide +kernel) ?_
                      refine ev_r_virt (pc := 341) (y := 415) (mi := 234) (na := 1) (k := 621) (as := [.int (Int32.ofInt 2)]) (rest := []) (encc := ev_oU) (Q := ev_PU) (fun x S1 h => jt_234 d (by omega) Q 2 (by decide) s83 x S1 h) (by exact ev_ob_621) (by decide +kernel) (by decide +kernel) (by decide +kernel) (by decide +kernel) rfl (by (try simp only [ev_sum, ev_nv_cat]); first | done | rfl) ?_
                      intro _ s85 _
                      show ev_w _ _ _ _ _ [] _ _ _ _
                      refine ev_r_aload_n (pc := 344) (k := 0) (v := .ref 621) trivial (by decide +kernel) (by exact e80) ?_
                      refine ev_r_bipush (pc := 345) (k := 14) (by decide +kernel) (by decide +kernel) ?_
                      refine ev_r_virt (pc := 347) (y := 378) (mi := 237) (na := 1) (k := 621) (as := [.int (Int32.ofInt 14)]) (rest := []) (encc := ev_oI) (Q := ev_rng) (fun x S1 h => jt_237 d (by omega) Q 14 (by decide) s85 x S1 h) (by exact ev_ob_621) (by decide +kernel) (by decide +kernel) (by decide +kernel) (by decide +kernel) rfl (by (try simp only [ev_sum, ev_nv_cat]); first | done | rfl) ?_
                      intro x87 s86 hx87
                      show ev_w _ _ _ _ _ [.int (Int32.ofInt x87)] _ _ _ _
                      refine ev_r_istore (pc := 350) (k := 4) (by decide +kernel) (by decide +kernel) rfl ?_
                      refine ev_r_aload_n (pc := 352) (k := 0) (v := .ref 621) trivial (by decide +kernel) (by exact (ev_l1 e80 (by decide) (by decide))) ?_
                      refine ev_r_getC (pc := 353) (y := 28) (ci := 13) (f := 9) (fin := 1) (k' := 628) (by decide +kernel) (by decide +kernel) (by exact ev_ob_621) rfl rfl ?_
                      refine ev_r_aload_n (pc := 356) (k := 0) (v := .ref 621) trivial (by decide +kernel) (by exact (ev_l1 e80 (by decide) (by decide))) ?_
                      refine ev_r_virt (pc := 357) (y := 356) (mi := 232) (na := 0) (k := 621) (as := []) (rest := [.ref 628]) (encc := ev_oI) (Q := ev_rng) (fun x S1 h => jt_232 d (by omega) Q   s86 x S1 h) (by exact ev_ob_621) (by decide +kernel) (by decide +kernel) (by decide +kernel) (by decide +kernel) rfl (by (try simp only [ev_sum, ev_nv_cat]); first | done | rfl) ?_
                      intro x89 s88 hx89
                      show ev_w _ _ _ _ _ [.int (Int32.ofInt x89), .ref 628] _ _ _ _
                      refine ev_r_iload (pc := 360) (k := 4) (v := Int32.ofInt x87) (by decide +kernel) (by exact ev_lk_st1_self) ?_
                      refine ev_r_iadd (pc := 362) (by decide +kernel) ?_
                      intro x90 hx90
                      refine ev_r_iload_n (pc := 363) (k := 1) (v := Int32.ofInt x7) (by decide +kernel) (by exact (ev_l1 e81 (by decide) (by decide))) ?_
                      refine ev_r_bipush (pc := 364) (k := 48) (by decide +kernel) (by decide +kernel) ?_
                      refine ev_r_isub (pc := 366) (by decide +kernel) ?_
                      intro x91 hx91
                      refine ev_r_iast (pc := 367) hx91 hx90 (by decide +kernel) (by exact ev_ab_628) ?_
                      intro s92
                      refine ev_r_goto (pc := 368) (o := 65) (t := 433) (by decide +kernel) (by decide +kernel) ?_
                      exact ev_r_return (pc := 433) (x := ()) trivial (by decide +kernel) (by decide +kernel) rfl
                    · intro K336 hK336
                      refine ev_r_jn (Q := fun K => ∀ (s96 : ev_St) (w93 : List (Nat × Value)), ev_lk w93 0 = some (.ref 621) → ev_lk w93 1 = some (.int (Int32.ofInt x7)) → ev_w none (ev_Mof 261) d 331 w93 [.ref 621] s96 (K  s96) ev_eU ev_PU) ?_ ?_
                      · intro  s96 w93 e94 e95
                        refine ev_r_iconst (pc := 331) (k := 1) (by decide +kernel) ?_
                        refine ev_r_goto (pc := 332) (o := 4) (t := 336) (by decide +kernel) (by decide +kernel) ?_
                        exact hK336 1 (by decide) s96 _ (by exact e94) (by exact e95)
                      · intro K331 hK331
                        refine ev_r_if (pc := 322) (q := .ne) (o := 9) (t := 331) (c := x77 ≠ 0) (by decide +kernel) (ev_k_ne hx77 ev_rng0) (by decide +kernel) ?_ ?_
                        · intro c97
                          exact hK331  s50 _ (by exact e11) (by exact e12)
                        · intro c97
                          refine ev_r_iload_n (pc := 325) (k := 2) (v := Int32.ofInt x8) (by decide +kernel) (by exact e13) ?_
                          refine ev_r_bipush (pc := 326) (k := 41) (by decide +kernel) (by decide +kernel) ?_
                          refine ev_r_icmp (pc := 328) (q := .eq) (o := 7) (t := 335) (c := x8 = 41) (by decide +kernel) (ev_k_eq hx8 (by decide)) (by decide +kernel) ?_ ?_
                          · intro c98
                            refine ev_r_iconst (pc := 335) (k := 0) (by decide +kernel) ?_
                            exact hK336 0 (by decide) s50 _ (by exact e11) (by exact e12)
                          · intro c98
                            exact hK331  s50 _ (by exact e11) (by exact e12)
                · intro c49
                  refine ev_r_aload_n (pc := 238) (k := 0) (v := .ref 621) trivial (by decide +kernel) (by exact e11) ?_
                  refine ev_r_aload_n (pc := 239) (k := 0) (v := .ref 621) trivial (by decide +kernel) (by exact e11) ?_
                  refine ev_r_getI (pc := 240) (y := 352) (ci := 13) (f := 25) (fin := 0) (by decide +kernel) (by decide +kernel) (by exact ev_ob_621) rfl ?_
                  intro x99 hx99
                  refine ev_r_jn (Q := fun K => ∀ (x100 : Int) (hx100 : ev_rng x100), ∀ (s104 : ev_St) (w101 : List (Nat × Value)), ev_lk w101 0 = some (.ref 621) → ev_lk w101 2 = some (.int (Int32.ofInt x8)) → ev_w none (ev_Mof 261) d 268 w101 [.int (Int32.ofInt x100), .ref 621] s104 (K x100 s104) ev_eU ev_PU) ?_ ?_
                  · intro x100 hx100 s104 w101 e102 e103
                    refine ev_r_chk ?_
                    intro c106
                    refine ev_r_putI (pc := 268) (y := 352) (ci := 13) (f := 25) hx100 (by decide +kernel) (by decide +kernel) (by exact ev_ob_621) rfl (ev_fit_bl c106) ?_
                    intro s105
                    refine ev_r_aload_n (pc := 271) (k := 0) (v := .ref 621) trivial (by decide +kernel) (by exact e102) ?_
                    refine ev_r_iconst (pc := 272) (k := 3) (by decide +kernel) ?_
                    refine ev_r_virt (pc := 273) (y := 415) (mi := 234) (na := 1) (k := 621) (as := [.int (Int32.ofInt 3)]) (rest := []) (encc := ev_oU) (Q := ev_PU) (fun x S1 h => jt_234 d (by omega) Q 3 (by decide) s105 x S1 h) (by exact ev_ob_621) (by decide +kernel) (by decide +kernel) (by decide +kernel) (by decide +kernel) rfl (by (try simp only [ev_sum, ev_nv_cat]); first | done | rfl) ?_
                    intro _ s107 _
                    show ev_w _ _ _ _ _ [] _ _ _ _
                    refine ev_r_aload_n (pc := 276) (k := 0) (v := .ref 621) trivial (by decide +kernel) (by exact e102) ?_
                    refine ev_r_bipush (pc := 277) (k := 13) (by decide +kernel) (by decide +kernel) ?_
                    refine ev_r_virt (pc := 279) (y := 378) (mi := 237) (na := 1) (k := 621) (as := [.int (Int32.ofInt 13)]) (rest := []) (encc := ev_oI) (Q := ev_rng) (fun x S1 h => jt_237 d (by omega) Q 13 (by decide) s107 x S1 h) (by exact ev_ob_621) (by decide +kernel) (by decide +kernel) (by decide +kernel) (by decide +kernel) rfl (by (try simp only [ev_sum, ev_nv_cat]); first | done | rfl) ?_
                    intro x109 s108 hx109
                    show ev_w _ _ _ _ _ [.int (Int32.ofInt x109)] _ _ _ _
                    refine ev_r_istore (pc := 282) (k := 4) (by decide +kernel) (by decide +kernel) rfl ?_
                    refine ev_r_aload_n (pc := 284) (k := 0) (v := .ref 621) trivial (by decide +kernel) (by exact (ev_l1 e102 (by decide) (by decide))) ?_
                    refine ev_r_getC (pc := 285) (y := 28) (ci := 13) (f := 9) (fin := 1) (k' := 628) (by decide +kernel) (by decide +kernel) (by exact ev_ob_621) rfl rfl ?_
                    refine ev_r_aload_n (pc := 288) (k := 0) (v := .ref 621) trivial (by decide +kernel) (by exact (ev_l1 e102 (by decide) (by decide))) ?_
                    refine ev_r_virt (pc := 289) (y := 356) (mi := 232) (na := 0) (k := 621) (as := []) (rest := [.ref 628]) (encc := ev_oI) (Q := ev_rng) (fun x S1 h => jt_232 d (by omega) Q   s108 x S1 h) (by exact ev_ob_621) (by decide +kernel) (by decide +kernel) (by decide +kernel) (by decide +kernel) rfl (by (try simp only [ev_sum, ev_nv_cat]); first | done | rfl) ?_
                    intro x111 s110 hx111
                    show ev_w _ _ _ _ _ [.int (Int32.ofInt x111), .ref 628] _ _ _ _
                    refine ev_r_iload (pc := 292) (k := 4) (v := Int32.ofInt x109) (by decide +kernel) (by exact ev_lk_st1_self) ?_
                    refine ev_r_iadd (pc := 294) (by decide +kernel) ?_
                    intro x112 hx112
                    refine ev_r_iload_n (pc := 295) (k := 2) (v := Int32.ofInt x8) (by decide +kernel) (by exact (ev_l1 e103 (by decide) (by decide))) ?_
                    refine ev_r_bipush (pc := 296) (k := 48) (by decide +kernel) (by decide +kernel) ?_
                    refine ev_r_isub (pc := 298) (by decide +kernel) ?_
                    intro x113 hx113
                    refine ev_r_iast (pc := 299) hx113 hx112 (by decide +kernel) (by exact ev_ab_628) ?_
                    intro s114
                    refine ev_r_aload_n (pc := 300) (k := 0) (v := .ref 621) trivial (by decide +kernel) (by exact (ev_l1 e102 (by decide) (by decide))) ?_
                    refine ev_r_iload (pc := 301) (k := 4) (v := Int32.ofInt x109) (by decide +kernel) (by exact ev_lk_st1_self) ?_
                    refine ev_r_iconst (pc := 303) (k := 0) (by decide +kernel) ?_
                    refine ev_r_virt (pc := 304) (y := 456) (mi := 239) (na := 2) (k := 621) (as := [.int (Int32.ofInt x109), .int (Int32.ofInt 0)]) (rest := []) (encc := ev_oU) (Q := ev_PU) (fun x S1 h => jt_239 d (by omega) Q x109 0 hx109 (by decide) s114 x S1 h) (by exact ev_ob_621) (by decide +kernel) (by decide +kernel) (by decide +kernel) (by decide +kernel) rfl (by (try simp only [ev_sum, ev_nv_cat]); first | done | rfl) ?_
                    intro _ s115 _
                    show ev_w _ _ _ _ _ [] _ _ _ _
                    refine ev_r_goto (pc := 307) (o := 126) (t := 433) (by decide +kernel) (by decide +kernel) ?_
                    exact ev_r_return (pc := 433) (x := ()) trivial (by decide +kernel) (by decide +kernel) rfl
                  · intro K268 hK268
                    refine ev_r_jn (Q := fun K => ∀ (s119 : ev_St) (w116 : List (Nat × Value)), ev_lk w116 0 = some (.ref 621) → ev_lk w116 2 = some (.int (Int32.ofInt x8)) → ev_w none (ev_Mof 261) d 263 w116 [.ref 621] s119 (K  s119) ev_eU ev_PU) ?_ ?_
                    · intro  s119 w116 e117 e118
                      refine ev_r_iconst (pc := 263) (k := 1) (by decide +kernel) ?_
                      refine ev_r_goto (pc := 264) (o := 4) (t := 268) (by decide +kernel) (by decide +kernel) ?_
                      exact hK268 1 (by decide) s119 _ (by exact e117) (by exact e118)
                    · intro K263 hK263
                      refine ev_r_if (pc := 243) (q := .ne) (o := 20) (t := 263) (c := x99 ≠ 0) (by decide +kernel) (ev_k_ne hx99 ev_rng0) (by decide +kernel) ?_ ?_
                      · intro c120
                        exact hK263  s15 _ (by exact e11) (by exact e13)
                      · intro c120
                        refine ev_r_iload_n (pc := 246) (k := 2) (v := Int32.ofInt x8) (by decide +kernel) (by exact e13) ?_
                        refine ev_r_bipush (pc := 247) (k := 49) (by decide +kernel) (by decide +kernel) ?_
                        refine ev_r_bipush (pc := 249) (k := 57) (by decide +kernel) (by decide +kernel) ?_
                        refine ev_r_stat (pc := 251) (y := 325) (kind := 2) (mi := 222) (na := 3) (as := [.int (Int32.ofInt x8), .int (Int32.ofInt 49), .int (Int32.ofInt 57)]) (rest := [.ref 621]) (encc := ev_oI) (Q := ev_bl) (fun x S1 h => jt_222 d (by omega) Q x8 49 57 hx8 (by decide) (by decide) s15 x S1 h) (Or.inl rfl) (by decide +kernel) (by decide +kernel) (by decide +kernel) (by decide +kernel) rfl (by (try simp only [ev_sum, ev_nv_cat]); first | done | rfl) ?_
                        intro x122 s121 hx122
                        replace hx122 := ev_bl_rng hx122
                        show ev_w _ _ _ _ _ [.int (Int32.ofInt x122), .ref 621] _ _ _ _
                        refine ev_r_if (pc := 254) (q := .eq) (o := 9) (t := 263) (c := x122 = 0) (by decide +kernel) (ev_k_eq hx122 ev_rng0) (by decide +kernel) ?_ ?_
                        · intro c123
                          exact hK263  s121 _ (by exact e11) (by exact e13)
                        · intro c123
                          refine ev_r_iload_n (pc := 257) (k := 3) (v := Int32.ofInt x9) (by decide +kernel) (by exact e14) ?_
                          refine ev_r_bipush (pc := 258) (k := 41) (by decide +kernel) (by decide +kernel) ?_
                          refine ev_r_icmp (pc := 260) (q := .eq) (o := 7) (t := 267) (c := x9 = 41) (by decide +kernel) (ev_k_eq hx9 (by decide)) (by decide +kernel) ?_ ?_
                          · intro c124
                            refine ev_r_iconst (pc := 267) (k := 0) (by decide +kernel) ?_
                            exact hK268 0 (by decide) s121 _ (by exact e11) (by exact e13)
                          · intro c124
                            exact hK263  s121 _ (by exact e11) (by exact e13)
              · intro c48
                exact hK164  s15 _ (by exact e11) (by exact e12)
    · intro c16
      refine ev_r_aload_n (pc := 88) (k := 0) (v := .ref 621) trivial (by decide +kernel) (by exact e11) ?_
      refine ev_r_aload_n (pc := 89) (k := 0) (v := .ref 621) trivial (by decide +kernel) (by exact e11) ?_
      refine ev_r_getI (pc := 90) (y := 352) (ci := 13) (f := 25) (fin := 0) (by decide +kernel) (by decide +kernel) (by exact ev_ob_621) rfl ?_
      intro x125 hx125
      refine ev_r_jn (Q := fun K => ∀ (x126 : Int) (hx126 : ev_rng x126), ∀ (s130 : ev_St) (w127 : List (Nat × Value)), ev_lk w127 0 = some (.ref 621) → ev_lk w127 2 = some (.int (Int32.ofInt x8)) → ev_w none (ev_Mof 261) d 114 w127 [.int (Int32.ofInt x126), .ref 621] s130 (K x126 s130) ev_eU ev_PU) ?_ ?_
      · intro x126 hx126 s130 w127 e128 e129
        refine ev_r_chk ?_
        intro c132
        refine ev_r_putI (pc := 114) (y := 352) (ci := 13) (f := 25) hx126 (by decide +kernel) (by decide +kernel) (by exact ev_ob_621) rfl (ev_fit_bl c132) ?_
        intro s131
        refine ev_r_aload_n (pc := 117) (k := 0) (v := .ref 621) trivial (by decide +kernel) (by exact e128) ?_
        refine ev_r_iconst (pc := 118) (k := 3) (by decide +kernel) ?_
        refine ev_r_virt (pc := 119) (y := 415) (mi := 234) (na := 1) (k := 621) (as := [.int (Int32.ofInt 3)]) (rest := []) (encc := ev_oU) (Q := ev_PU) (fun x S1 h => jt_234 d (by omega) Q 3 (by decide) s131 x S1 h) (by exact ev_ob_621) (by decide +kernel) (by decide +kernel) (by decide +kernel) (by decide +kernel) rfl (by (try simp only [ev_sum, ev_nv_cat]); first | done | rfl) ?_
        intro _ s133 _
        show ev_w _ _ _ _ _ [] _ _ _ _
        refine ev_r_aload_n (pc := 122) (k := 0) (v := .ref 621) trivial (by decide +kernel) (by exact e128) ?_
        refine ev_r_getI (pc := 123) (y := 352) (ci := 13) (f := 25) (fin := 0) (by decide +kernel) (by decide +kernel) (by exact ev_ob_621) rfl ?_
        intro x134 hx134
        refine ev_r_if (pc := 126) (q := .ne) (o := 307) (t := 433) (c := x134 ≠ 0) (by decide +kernel) (ev_k_ne hx134 ev_rng0) (by decide +kernel) ?_ ?_
        · intro c135
          exact ev_r_return (pc := 433) (x := ()) trivial (by decide +kernel) (by decide +kernel) rfl
        · intro c135
          refine ev_r_aload_n (pc := 129) (k := 0) (v := .ref 621) trivial (by decide +kernel) (by exact e128) ?_
          refine ev_r_iload_n (pc := 130) (k := 2) (v := Int32.ofInt x8) (by decide +kernel) (by exact e129) ?_
          refine ev_r_bipush (pc := 131) (k := 97) (by decide +kernel) (by decide +kernel) ?_
          refine ev_r_isub (pc := 133) (by decide +kernel) ?_
          intro x136 hx136
          refine ev_r_virt (pc := 134) (y := 463) (mi := 259) (na := 1) (k := 621) (as := [.int (Int32.ofInt x136)]) (rest := []) (encc := ev_oU) (Q := ev_PU) (fun x S1 h => jt_259 d (by omega) Q x136 hx136 s133 x S1 h) (by exact ev_ob_621) (by decide +kernel) (by decide +kernel) (by decide +kernel) (by decide +kernel) rfl (by (try simp only [ev_sum, ev_nv_cat]); first | done | rfl) ?_
          intro _ s137 _
          show ev_w _ _ _ _ _ [] _ _ _ _
          refine ev_r_goto (pc := 137) (o := 296) (t := 433) (by decide +kernel) (by decide +kernel) ?_
          exact ev_r_return (pc := 433) (x := ()) trivial (by decide +kernel) (by decide +kernel) rfl
      · intro K114 hK114
        refine ev_r_jn (Q := fun K => ∀ (s141 : ev_St) (w138 : List (Nat × Value)), ev_lk w138 0 = some (.ref 621) → ev_lk w138 2 = some (.int (Int32.ofInt x8)) → ev_w none (ev_Mof 261) d 109 w138 [.ref 621] s141 (K  s141) ev_eU ev_PU) ?_ ?_
        · intro  s141 w138 e139 e140
          refine ev_r_iconst (pc := 109) (k := 1) (by decide +kernel) ?_
          refine ev_r_goto (pc := 110) (o := 4) (t := 114) (by decide +kernel) (by decide +kernel) ?_
          exact hK114 1 (by decide) s141 _ (by exact e139) (by exact e140)
        · intro K109 hK109
          refine ev_r_if (pc := 93) (q := .ne) (o := 16) (t := 109) (c := x125 ≠ 0) (by decide +kernel) (ev_k_ne hx125 ev_rng0) (by decide +kernel) ?_ ?_
          · intro c142
            exact hK109  s15 _ (by exact e11) (by exact e13)
          · intro c142
            refine ev_r_iload_n (pc := 96) (k := 2) (v := Int32.ofInt x8) (by decide +kernel) (by exact e13) ?_
            refine ev_r_stat (pc := 97) (y := 329) (kind := 2) (mi := 224) (na := 1) (as := [.int (Int32.ofInt x8)]) (rest := [.ref 621]) (encc := ev_oI) (Q := ev_bl) (fun x S1 h => jt_224 d (by omega) Q x8 hx8 s15 x S1 h) (Or.inl rfl) (by decide +kernel) (by decide +kernel) (by decide +kernel) (by decide +kernel) rfl (by (try simp only [ev_sum, ev_nv_cat]); first | done | rfl) ?_
            intro x144 s143 hx144
            replace hx144 := ev_bl_rng hx144
            show ev_w _ _ _ _ _ [.int (Int32.ofInt x144), .ref 621] _ _ _ _
            refine ev_r_if (pc := 100) (q := .eq) (o := 9) (t := 109) (c := x144 = 0) (by decide +kernel) (ev_k_eq hx144 ev_rng0) (by decide +kernel) ?_ ?_
            · intro c145
              exact hK109  s143 _ (by exact e11) (by exact e13)
            · intro c145
              refine ev_r_iload_n (pc := 103) (k := 3) (v := Int32.ofInt x9) (by decide +kernel) (by exact e14) ?_
              refine ev_r_bipush (pc := 104) (k := 62) (by decide +kernel) (by decide +kernel) ?_
              refine ev_r_icmp (pc := 106) (q := .eq) (o := 7) (t := 113) (c := x9 = 62) (by decide +kernel) (ev_k_eq hx9 (by decide)) (by decide +kernel) ?_ ?_
              · intro c146
                refine ev_r_iconst (pc := 113) (k := 0) (by decide +kernel) ?_
                exact hK114 0 (by decide) s143 _ (by exact e11) (by exact e13)
              · intro c146
                exact hK109  s143 _ (by exact e11) (by exact e13)
  · intro K82 hK82
    refine ev_r_icmp (pc := 21) (q := .ne) (o := 61) (t := 82) (c := x2 ≠ 60) (by decide +kernel) (ev_k_ne hx2 (by decide)) (by decide +kernel) ?_ ?_
    · intro c147
      exact hK82 x2 hx2 x4 hx4 x6 hx6 s5 _ (by exact (ev_l1 (ev_l1 (ev_lk_st1 (by rfl) (by decide) rfl) (by decide) (by decide)) (by decide) (by decide))) (by exact (ev_l1 (ev_lk_st1 ev_lk_st1_self (by decide) rfl) (by decide) (by decide))) (by exact (ev_lk_st1 ev_lk_st1_self (by decide) rfl)) (by exact ev_lk_st1_self)
    · intro c147
      refine ev_r_iload_n (pc := 24) (k := 2) (v := Int32.ofInt x4) (by decide +kernel) (by exact (ev_lk_st1 ev_lk_st1_self (by decide) rfl)) ?_
      refine ev_r_bipush (pc := 25) (k := 61) (by decide +kernel) (by decide +kernel) ?_
      refine ev_r_jn (Q := fun K => ∀ (s151 : ev_St) (w148 : List (Nat × Value)), ev_lk w148 0 = some (.ref 621) → ev_lk w148 2 = some (.int (Int32.ofInt x4)) → ev_w none (ev_Mof 261) d 36 w148 [] s151 (K  s151) ev_eU ev_PU) ?_ ?_
      · intro  s151 w148 e149 e150
        refine ev_r_aload_n (pc := 36) (k := 0) (v := .ref 621) trivial (by decide +kernel) (by exact e149) ?_
        refine ev_r_iconst (pc := 37) (k := 2) (by decide +kernel) ?_
        refine ev_r_virt (pc := 38) (y := 415) (mi := 234) (na := 1) (k := 621) (as := [.int (Int32.ofInt 2)]) (rest := []) (encc := ev_oU) (Q := ev_PU) (fun x S1 h => jt_234 d (by omega) Q 2 (by decide) s151 x S1 h) (by exact ev_ob_621) (by decide +kernel) (by decide +kernel) (by decide +kernel) (by decide +kernel) rfl (by (try simp only [ev_sum, ev_nv_cat]); first | done | rfl) ?_
        intro _ s152 _
        show ev_w _ _ _ _ _ [] _ _ _ _
        refine ev_r_aload_n (pc := 41) (k := 0) (v := .ref 621) trivial (by decide +kernel) (by exact e149) ?_
        refine ev_r_bipush (pc := 42) (k := 12) (by decide +kernel) (by decide +kernel) ?_
        refine ev_r_virt (pc := 44) (y := 378) (mi := 237) (na := 1) (k := 621) (as := [.int (Int32.ofInt 12)]) (rest := []) (encc := ev_oI) (Q := ev_rng) (fun x S1 h => jt_237 d (by omega) Q 12 (by decide) s152 x S1 h) (by exact ev_ob_621) (by decide +kernel) (by decide +kernel) (by decide +kernel) (by decide +kernel) rfl (by (try simp only [ev_sum, ev_nv_cat]); first | done | rfl) ?_
        intro x154 s153 hx154
        show ev_w _ _ _ _ _ [.int (Int32.ofInt x154)] _ _ _ _
        refine ev_r_istore (pc := 47) (k := 4) (by decide +kernel) (by decide +kernel) rfl ?_
        refine ev_r_aload_n (pc := 49) (k := 0) (v := .ref 621) trivial (by decide +kernel) (by exact (ev_l1 e149 (by decide) (by decide))) ?_
        refine ev_r_getC (pc := 50) (y := 31) (ci := 13) (f := 10) (fin := 1) (k' := 629) (by decide +kernel) (by decide +kernel) (by exact ev_ob_621) rfl rfl ?_
        refine ev_r_aload_n (pc := 53) (k := 0) (v := .ref 621) trivial (by decide +kernel) (by exact (ev_l1 e149 (by decide) (by decide))) ?_
        refine ev_r_virt (pc := 54) (y := 356) (mi := 232) (na := 0) (k := 621) (as := []) (rest := [.ref 629]) (encc := ev_oI) (Q := ev_rng) (fun x S1 h => jt_232 d (by omega) Q   s153 x S1 h) (by exact ev_ob_621) (by decide +kernel) (by decide +kernel) (by decide +kernel) (by decide +kernel) rfl (by (try simp only [ev_sum, ev_nv_cat]); first | done | rfl) ?_
        intro x156 s155 hx156
        show ev_w _ _ _ _ _ [.int (Int32.ofInt x156), .ref 629] _ _ _ _
        refine ev_r_iload (pc := 57) (k := 4) (v := Int32.ofInt x154) (by decide +kernel) (by exact ev_lk_st1_self) ?_
        refine ev_r_iadd (pc := 59) (by decide +kernel) ?_
        intro x157 hx157
        refine ev_r_iload_n (pc := 60) (k := 2) (v := Int32.ofInt x4) (by decide +kernel) (by exact (ev_l1 e150 (by decide) (by decide))) ?_
        refine ev_r_bipush (pc := 61) (k := 33) (by decide +kernel) (by decide +kernel) ?_
        refine ev_r_jn (Q := fun K => ∀ (x158 : Int) (hx158 : ev_rng x158), ∀ (x161 : Int) (hx161 : ev_rng x161), ∀ (x160 : Int) (hx160 : ev_rng x160), ∀ (r159 : Nat) (hr159 : ev_isAb r159 1 .int = true), ∀ (s165 : ev_St) (w162 : List (Nat × Value)), ev_lk w162 0 = some (.ref 621) → ev_lk w162 4 = some (.int (Int32.ofInt x158)) → ev_w none (ev_Mof 261) d 71 w162 [.int (Int32.ofInt x161), .int (Int32.ofInt x160), .ref r159] s165 (K x158 x161 x160 r159 s165) ev_eU ev_PU) ?_ ?_
        · intro x158 hx158 x161 hx161 x160 hx160 r159 hr159 s165 w162 e163 e164
          refine ev_r_iast (pc := 71) hx161 hx160 (by decide +kernel) (by exact hr159) ?_
          intro s166
          refine ev_r_aload_n (pc := 72) (k := 0) (v := .ref 621) trivial (by decide +kernel) (by exact e163) ?_
          refine ev_r_iload (pc := 73) (k := 4) (v := Int32.ofInt x158) (by decide +kernel) (by exact e164) ?_
          refine ev_r_iconst (pc := 75) (k := 0) (by decide +kernel) ?_
          refine ev_r_virt (pc := 76) (y := 456) (mi := 239) (na := 2) (k := 621) (as := [.int (Int32.ofInt x158), .int (Int32.ofInt 0)]) (rest := []) (encc := ev_oU) (Q := ev_PU) (fun x S1 h => jt_239 d (by omega) Q x158 0 hx158 (by decide) s166 x S1 h) (by exact ev_ob_621) (by decide +kernel) (by decide +kernel) (by decide +kernel) (by decide +kernel) rfl (by (try simp only [ev_sum, ev_nv_cat]); first | done | rfl) ?_
          intro _ s167 _
          show ev_w _ _ _ _ _ [] _ _ _ _
          refine ev_r_goto (pc := 79) (o := 354) (t := 433) (by decide +kernel) (by decide +kernel) ?_
          exact ev_r_return (pc := 433) (x := ()) trivial (by decide +kernel) (by decide +kernel) rfl
        · intro K71 hK71
          refine ev_r_icmp (pc := 63) (q := .ne) (o := 7) (t := 70) (c := x4 ≠ 33) (by decide +kernel) (ev_k_ne hx4 (by decide)) (by decide +kernel) ?_ ?_
          · intro c168
            refine ev_r_iconst (pc := 70) (k := 0) (by decide +kernel) ?_
            exact hK71 x154 hx154 0 (by decide) x157 hx157 629 ev_ab_629 s155 _ (by exact (ev_l1 e149 (by decide) (by decide))) (by exact ev_lk_st1_self)
          · intro c168
            refine ev_r_iconst (pc := 66) (k := 1) (by decide +kernel) ?_
            refine ev_r_goto (pc := 67) (o := 4) (t := 71) (by decide +kernel) (by decide +kernel) ?_
            exact hK71 x154 hx154 1 (by decide) x157 hx157 629 ev_ab_629 s155 _ (by exact (ev_l1 e149 (by decide) (by decide))) (by exact ev_lk_st1_self)
      · intro K36 hK36
        refine ev_r_icmp (pc := 27) (q := .eq) (o := 9) (t := 36) (c := x4 = 61) (by decide +kernel) (ev_k_eq hx4 (by decide)) (by decide +kernel) ?_ ?_
        · intro c169
          exact hK36  s5 _ (by exact (ev_l1 (ev_l1 (ev_lk_st1 (by rfl) (by decide) rfl) (by decide) (by decide)) (by decide) (by decide))) (by exact (ev_lk_st1 ev_lk_st1_self (by decide) rfl))
        · intro c169
          refine ev_r_iload_n (pc := 30) (k := 2) (v := Int32.ofInt x4) (by decide +kernel) (by exact (ev_lk_st1 ev_lk_st1_self (by decide) rfl)) ?_
          refine ev_r_bipush (pc := 31) (k := 33) (by decide +kernel) (by decide +kernel) ?_
          refine ev_r_icmp (pc := 33) (q := .ne) (o := 49) (t := 82) (c := x4 ≠ 33) (by decide +kernel) (ev_k_ne hx4 (by decide)) (by decide +kernel) ?_ ?_
          · intro c170
            exact hK82 x2 hx2 x4 hx4 x6 hx6 s5 _ (by exact (ev_l1 (ev_l1 (ev_lk_st1 (by rfl) (by decide) rfl) (by decide) (by decide)) (by decide) (by decide))) (by exact (ev_l1 (ev_lk_st1 ev_lk_st1_self (by decide) rfl) (by decide) (by decide))) (by exact (ev_lk_st1 ev_lk_st1_self (by decide) rfl)) (by exact ev_lk_st1_self)
          · intro c170
            exact hK36  s5 _ (by exact (ev_l1 (ev_l1 (ev_lk_st1 (by rfl) (by decide) rfl) (by decide) (by decide)) (by decide) (by decide))) (by exact (ev_lk_st1 ev_lk_st1_self (by decide) rfl))
