/-! METHODS as functions, laid by decomp.py -/
theorem ev_fo_5_13 {k : Nat} (h : ev_isOb k 5 = true) : ev_isOb (k + 12) 6 = true := ev_foO (by decide +kernel) h
theorem ev_ab_228 : ev_isAb 228 1 .int = true := (by decide +kernel)
theorem ev_ab_229 : ev_isAb 229 1 .boolean = true := (by decide +kernel)
theorem ev_ob_269 : ev_isOb 269 3 = true := (by decide +kernel)
theorem ev_ob_270 : ev_isOb 270 10 = true := (by decide +kernel)
theorem ev_ob_281 : ev_isOb 281 8 = true := (by decide +kernel)
theorem ev_ab_283 : ev_isAb 283 1 .int = true := (by decide +kernel)
theorem ev_ab_282 : ev_isAb 282 1 .int = true := (by decide +kernel)
def jb_29_7 (Q : Nat)   (K7 : Int → ev_St → Option ((Unit) × ev_St)) (x2 : Int) (s6 : ev_St) : Option ((Unit) × ev_St) := ev_b (s6.2.2.1 221 9) fun r7 => ev_if (r7 ≠ 0) (ev_b (s6.1 ((r7 - 1)) 11) fun x9 => ev_jn (fun  (s12 : ev_St) => ev_b (s12.2.2.1 221 9) fun r13 => ev_if (r13 ≠ 0) (ev_bd (jm_60 Q ((r13 - 1)) s12) fun x16 s15 => ev_b (s15.2.2.1 221 9) fun r17 => ev_if (r17 ≠ 0) (ev_bd (jm_59 Q ((r17 - 1)) x16 s15) fun x20 s19 => if x20 ≠ 0 then (ev_b (s19.2.2.1 221 9) fun r22 => ev_if ((0 : Int) ≤ x16 ∧ x16 < (ev_aln 222 : Int)) (ev_b (s19.1 222 (Int.toNat x16)) fun x23 => ev_if (r22 ≠ 0) (ev_b (ev_pI s19 ((r22 - 1)) 16 x23) fun s25 => ev_b (s25.2.2.1 221 9) fun r26 => ev_ck (2 * x16) fun x27 => ev_if ((0 : Int) ≤ x27 ∧ x27 < (ev_aln 224 : Int)) (ev_b (s25.2.1 224 (Int.toNat x27)) fun y28 => ev_if (r26 ≠ 0) (ev_b (ev_pL s25 ((r26 - 1)) 17 y28) fun s30 => ev_b (s30.2.2.1 221 9) fun r31 => ev_ck (2 * x16) fun x32 => ev_ck (x32 + 1) fun x33 => ev_if ((0 : Int) ≤ x33 ∧ x33 < (ev_aln 224 : Int)) (ev_b (s30.2.1 224 (Int.toNat x33)) fun y34 => ev_if (r31 ≠ 0) (ev_b (ev_pL s30 ((r31 - 1)) 18 y34) fun s36 => ev_b (s36.2.2.1 221 9) fun r37 => ev_ck (2 * x16) fun x38 => ev_if ((0 : Int) ≤ x38 ∧ x38 < (ev_aln 227 : Int)) (ev_b (s36.2.1 227 (Int.toNat x38)) fun y39 => ev_ck (2 * x16) fun x40 => ev_ck (x40 + 1) fun x41 => ev_if ((0 : Int) ≤ x41 ∧ x41 < (ev_aln 227 : Int)) (ev_b (s36.2.1 227 (Int.toNat x41)) fun y42 => ev_bd (jm_30 Q y39 y42 s36) fun x44 s43 => ev_if (r37 ≠ 0) (ev_b (ev_pI s43 ((r37 - 1)) 19 x44) fun s46 => ev_bd (jm_40 Q  s46) fun _ s47 => ev_b (s47.2.2.1 221 9) fun r48 => ev_if ((0 : Int) ≤ x16 ∧ x16 < (ev_aln 223 : Int)) (ev_b (s47.1 223 (Int.toNat x16)) fun x49 => ev_jn (fun (x51 : Int) (r50 : Nat) (s54 : ev_St) => ev_if (r50 ≠ 0) (ev_if (ev_bl x51) (ev_b (ev_pI s54 ((r50 - 1)) 14 x51) fun s56 => ev_b (s56.2.2.1 221 9) fun r58 => ev_b (s56.2.2.1 221 9) fun r59 => ev_if (r59 ≠ 0) (ev_b (s56.1 ((r59 - 1)) 14) fun x61 => ev_jn (fun (x63 : Int) (r62 : Nat) (s66 : ev_St) => ev_if (r62 ≠ 0) (ev_if (ev_bl x63) (ev_b (ev_pI s66 ((r62 - 1)) 15 x63) fun s68 => ev_b (s68.2.2.1 221 9) fun r70 => ev_if (r70 ≠ 0) (ev_b (s68.1 ((r70 - 1)) 14) fun x72 => if x72 = 0 then (some ((), s68)) else (ev_b (s68.2.2.1 221 9) fun r74 => ev_if (r74 ≠ 0) (ev_b (s68.2.2.1 221 9) fun r76 => ev_bd (jm_71 Q (((r74 - 1) + 12)) r76 ((228 + 1)) ((229 + 1)) s68) fun _ s77 => some ((), s77))))))) fun K190 => ev_jn (fun (r78 : Nat) (s81 : ev_St) => K190 0 r78 s81) fun K189 => if x61 = 0 then (K189 r58 s56) else (ev_bd (jm_39 Q  s56) fun x84 s83 => if x84 ≠ 0 then (K189 r58 s83) else (K190 1 r58 s83)))))) fun K161 => ev_jn (fun (r86 : Nat) (s89 : ev_St) => K161 0 r86 s89) fun K160 => if 200 < x49 then (K160 r48 s47) else (ev_bd (jm_38 Q  s47) fun x92 s91 => if x92 = 0 then (K160 r48 s91) else (K161 1 r48 s91))))))))))))) else (some ((), s19))))) fun K36 => if x9 ≤ x2 then (K36  s6) else (if 400 ≤ x2 then (K36  s6) else (ev_bd (jm_31 Q x2 s6) fun _ s96 => ev_ck (x2 + 1) fun x97 => K7 x97 s96)))
def jl_29_7 (Q : Nat)   : Nat → Int → ev_St → Option ((Unit) × ev_St)
  | 0 => fun _ _ => none
  | q + 1 => jb_29_7 Q   (jl_29_7 Q   q)
theorem jbt_29_7 (d : Nat) (hd : 6 ≤ d + 1) (Q : Nat)     (K7 : Int → ev_St → Option ((Unit) × ev_St)) (hK7 : ∀ (x2 : Int) (hx2 : ev_rng x2), ∀ (s6 : ev_St) (w3 : List (Nat × Value)), ev_lk w3 0 = some (.ref 221) → ev_lk w3 2 = some (.int (Int32.ofInt x2)) → ev_w none (ev_Mof 29) d 7 w3 [] s6 (K7 x2 s6) ev_eU ev_PU) : ∀ (x2 : Int) (hx2 : ev_rng x2), ∀ (s6 : ev_St) (w3 : List (Nat × Value)), ev_lk w3 0 = some (.ref 221) → ev_lk w3 2 = some (.int (Int32.ofInt x2)) → ev_w none (ev_Mof 29) d 7 w3 [] s6 (jb_29_7 Q   K7 x2 s6) ev_eU ev_PU := by
  intro x2 hx2 s6 w3 e4 e5
  unfold jb_29_7
  refine ev_r_iload_n (pc := 7) (k := 2) (v := Int32.ofInt x2) (by decide +kernel) (by exact e5) ?_
  refine ev_r_aload_n (pc := 8) (k := 0) (v := .ref 221) trivial (by decide +kernel) (by exact e4) ?_
  refine ev_r_getR (pc := 9) (y := 47) (ci := 2) (f := 9) (fin := 0) (t := 5) (by decide +kernel) (by decide +kernel) (by exact ev_ob_221) rfl rfl ?_
  intro r7 hr7
  have hr7 : r7 = 0 ∨ ev_isOb (r7 - 1) 5 = true := hr7
  refine ev_r_chk ?_
  intro c8
  refine ev_r_dr (r := r7) (fun v => [v, .int (Int32.ofInt x2)]) c8 ?_
  refine ev_r_getI (pc := 12) (y := 51) (ci := 5) (f := 11) (fin := 0) (by decide +kernel) (by decide +kernel) (by exact (hr7.resolve_left c8)) rfl ?_
  intro x9 hx9
  refine ev_r_jn (Q := fun K => ∀ (s12 : ev_St) (w10 : List (Nat × Value)), ev_lk w10 0 = some (.ref 221) → ev_w none (ev_Mof 29) d 36 w10 [] s12 (K  s12) ev_eU ev_PU) ?_ ?_
  · intro  s12 w10 e11
    refine ev_r_aload_n (pc := 36) (k := 0) (v := .ref 221) trivial (by decide +kernel) (by exact e11) ?_
    refine ev_r_getR (pc := 37) (y := 47) (ci := 2) (f := 9) (fin := 0) (t := 5) (by decide +kernel) (by decide +kernel) (by exact ev_ob_221) rfl rfl ?_
    intro r13 hr13
    have hr13 : r13 = 0 ∨ ev_isOb (r13 - 1) 5 = true := hr13
    refine ev_r_chk ?_
    intro c14
    refine ev_r_dr (r := r13) (fun v => [v]) c14 ?_
    refine ev_r_virt (pc := 40) (y := 59) (mi := 60) (na := 0) (k := (r13 - 1)) (as := []) (rest := []) (encc := ev_oI) (Q := ev_rng) (fun x S1 h => jt_60 d (by omega) Q ((r13 - 1)) (hr13.resolve_left c14) s12 x S1 h) (by exact (hr13.resolve_left c14)) (by decide +kernel) (by decide +kernel) (by decide +kernel) (by decide +kernel) rfl (by (try simp only [ev_sum, ev_nv_cat]); first | done | rfl) ?_
    intro x16 s15 hx16
    show ev_w _ _ _ _ _ [.int (Int32.ofInt x16)] _ _ _ _
    refine ev_r_istore_n (pc := 43) (k := 2) (by decide +kernel) (by decide +kernel) rfl ?_
    refine ev_r_aload_n (pc := 44) (k := 0) (v := .ref 221) trivial (by decide +kernel) (by exact (ev_l1 e11 (by decide) (by decide))) ?_
    refine ev_r_getR (pc := 45) (y := 47) (ci := 2) (f := 9) (fin := 0) (t := 5) (by decide +kernel) (by decide +kernel) (by exact ev_ob_221) rfl rfl ?_
    intro r17 hr17
    have hr17 : r17 = 0 ∨ ev_isOb (r17 - 1) 5 = true := hr17
    refine ev_r_iload_n (pc := 48) (k := 2) (v := Int32.ofInt x16) (by decide +kernel) (by exact ev_lk_st1_self) ?_
    refine ev_r_chk ?_
    intro c18
    refine ev_r_dr (r := r17) (fun v => [.int (Int32.ofInt x16), v]) c18 ?_
    refine ev_r_virt (pc := 49) (y := 63) (mi := 59) (na := 1) (k := (r17 - 1)) (as := [.int (Int32.ofInt x16)]) (rest := []) (encc := ev_oI) (Q := ev_bl) (fun x S1 h => jt_59 d (by omega) Q ((r17 - 1)) x16 (hr17.resolve_left c18) hx16 s15 x S1 h) (by exact (hr17.resolve_left c18)) (by decide +kernel) (by decide +kernel) (by decide +kernel) (by decide +kernel) rfl (by (try simp only [ev_sum, ev_nv_cat]); first | done | rfl) ?_
    intro x20 s19 hx20
    replace hx20 := ev_bl_rng hx20
    show ev_w _ _ _ _ _ [.int (Int32.ofInt x20)] _ _ _ _
    refine ev_r_if (pc := 52) (q := .ne) (o := 4) (t := 56) (c := x20 ≠ 0) (by decide +kernel) (ev_k_ne hx20 ev_rng0) (by decide +kernel) ?_ ?_
    · intro c21
      refine ev_r_aload_n (pc := 56) (k := 0) (v := .ref 221) trivial (by decide +kernel) (by exact (ev_l1 e11 (by decide) (by decide))) ?_
      refine ev_r_getR (pc := 57) (y := 47) (ci := 2) (f := 9) (fin := 0) (t := 5) (by decide +kernel) (by decide +kernel) (by exact ev_ob_221) rfl rfl ?_
      intro r22 hr22
      have hr22 : r22 = 0 ∨ ev_isOb (r22 - 1) 5 = true := hr22
      refine ev_r_aload_n (pc := 60) (k := 0) (v := .ref 221) trivial (by decide +kernel) (by exact (ev_l1 e11 (by decide) (by decide))) ?_
      refine ev_r_getC (pc := 61) (y := 11) (ci := 2) (f := 0) (fin := 1) (k' := 222) (by decide +kernel) (by decide +kernel) (by exact ev_ob_221) rfl rfl ?_
      refine ev_r_iload_n (pc := 64) (k := 2) (v := Int32.ofInt x16) (by decide +kernel) (by exact ev_lk_st1_self) ?_
      refine ev_r_iald (pc := 65) hx16 (by decide +kernel) (by exact ev_ab_222) ?_
      intro x23 hx23
      refine ev_r_chk ?_
      intro c24
      refine ev_r_dr (r := r22) (fun v => [.int (Int32.ofInt x23), v]) c24 ?_
      refine ev_r_putI (pc := 66) (y := 67) (ci := 5) (f := 16) hx23 (by decide +kernel) (by decide +kernel) (by exact (hr22.resolve_left c24)) rfl rfl ?_
      intro s25
      refine ev_r_aload_n (pc := 69) (k := 0) (v := .ref 221) trivial (by decide +kernel) (by exact (ev_l1 e11 (by decide) (by decide))) ?_
      refine ev_r_getR (pc := 70) (y := 47) (ci := 2) (f := 9) (fin := 0) (t := 5) (by decide +kernel) (by decide +kernel) (by exact ev_ob_221) rfl rfl ?_
      intro r26 hr26
      have hr26 : r26 = 0 ∨ ev_isOb (r26 - 1) 5 = true := hr26
      refine ev_r_aload_n (pc := 73) (k := 0) (v := .ref 221) trivial (by decide +kernel) (by exact (ev_l1 e11 (by decide) (by decide))) ?_
      refine ev_r_getC (pc := 74) (y := 20) (ci := 2) (f := 2) (fin := 1) (k' := 224) (by decide +kernel) (by decide +kernel) (by exact ev_ob_221) rfl rfl ?_
      refine ev_r_iconst (pc := 77) (k := 2) (by decide +kernel) ?_
      refine ev_r_iload_n (pc := 78) (k := 2) (v := Int32.ofInt x16) (by decide +kernel) (by exact ev_lk_st1_self) ?_
      refine ev_r_imul (pc := 79) (by decide +kernel) ?_
      intro x27 hx27
      refine ev_r_lald (pc := 80) hx27 (by decide +kernel) (by exact ev_ab_224) ?_
      intro y28
      refine ev_r_chk ?_
      intro c29
      refine ev_r_dr (r := r26) (fun v => [.long y28, v]) c29 ?_
      refine ev_r_putL (pc := 81) (y := 70) (ci := 5) (f := 17) (by decide +kernel) (by decide +kernel) (by exact (hr26.resolve_left c29)) rfl rfl ?_
      intro s30
      refine ev_r_aload_n (pc := 84) (k := 0) (v := .ref 221) trivial (by decide +kernel) (by exact (ev_l1 e11 (by decide) (by decide))) ?_
      refine ev_r_getR (pc := 85) (y := 47) (ci := 2) (f := 9) (fin := 0) (t := 5) (by decide +kernel) (by decide +kernel) (by exact ev_ob_221) rfl rfl ?_
      intro r31 hr31
      have hr31 : r31 = 0 ∨ ev_isOb (r31 - 1) 5 = true := hr31
      refine ev_r_aload_n (pc := 88) (k := 0) (v := .ref 221) trivial (by decide +kernel) (by exact (ev_l1 e11 (by decide) (by decide))) ?_
      refine ev_r_getC (pc := 89) (y := 20) (ci := 2) (f := 2) (fin := 1) (k' := 224) (by decide +kernel) (by decide +kernel) (by exact ev_ob_221) rfl rfl ?_
      refine ev_r_iconst (pc := 92) (k := 2) (by decide +kernel) ?_
      refine ev_r_iload_n (pc := 93) (k := 2) (v := Int32.ofInt x16) (by decide +kernel) (by exact ev_lk_st1_self) ?_
      refine ev_r_imul (pc := 94) (by decide +kernel) ?_
      intro x32 hx32
      refine ev_r_iconst (pc := 95) (k := 1) (by decide +kernel) ?_
      refine ev_r_iadd (pc := 96) (by decide +kernel) ?_
      intro x33 hx33
      refine ev_r_lald (pc := 97) hx33 (by decide +kernel) (by exact ev_ab_224) ?_
      intro y34
      refine ev_r_chk ?_
      intro c35
      refine ev_r_dr (r := r31) (fun v => [.long y34, v]) c35 ?_
      refine ev_r_putL (pc := 98) (y := 74) (ci := 5) (f := 18) (by decide +kernel) (by decide +kernel) (by exact (hr31.resolve_left c35)) rfl rfl ?_
      intro s36
      refine ev_r_aload_n (pc := 101) (k := 0) (v := .ref 221) trivial (by decide +kernel) (by exact (ev_l1 e11 (by decide) (by decide))) ?_
      refine ev_r_getR (pc := 102) (y := 47) (ci := 2) (f := 9) (fin := 0) (t := 5) (by decide +kernel) (by decide +kernel) (by exact ev_ob_221) rfl rfl ?_
      intro r37 hr37
      have hr37 : r37 = 0 ∨ ev_isOb (r37 - 1) 5 = true := hr37
      refine ev_r_aload_n (pc := 105) (k := 0) (v := .ref 221) trivial (by decide +kernel) (by exact (ev_l1 e11 (by decide) (by decide))) ?_
      refine ev_r_getC (pc := 106) (y := 30) (ci := 2) (f := 5) (fin := 1) (k' := 227) (by decide +kernel) (by decide +kernel) (by exact ev_ob_221) rfl rfl ?_
      refine ev_r_iconst (pc := 109) (k := 2) (by decide +kernel) ?_
      refine ev_r_iload_n (pc := 110) (k := 2) (v := Int32.ofInt x16) (by decide +kernel) (by exact ev_lk_st1_self) ?_
      refine ev_r_imul (pc := 111) (by decide +kernel) ?_
      intro x38 hx38
      refine ev_r_lald (pc := 112) hx38 (by decide +kernel) (by exact ev_ab_227) ?_
      intro y39
      refine ev_r_aload_n (pc := 113) (k := 0) (v := .ref 221) trivial (by decide +kernel) (by exact (ev_l1 e11 (by decide) (by decide))) ?_
      refine ev_r_getC (pc := 114) (y := 30) (ci := 2) (f := 5) (fin := 1) (k' := 227) (by decide +kernel) (by decide +kernel) (by exact ev_ob_221) rfl rfl ?_
      refine ev_r_iconst (pc := 117) (k := 2) (by decide +kernel) ?_
      refine ev_r_iload_n (pc := 118) (k := 2) (v := Int32.ofInt x16) (by decide +kernel) (by exact ev_lk_st1_self) ?_
      refine ev_r_imul (pc := 119) (by decide +kernel) ?_
      intro x40 hx40
      refine ev_r_iconst (pc := 120) (k := 1) (by decide +kernel) ?_
      refine ev_r_iadd (pc := 121) (by decide +kernel) ?_
      intro x41 hx41
      refine ev_r_lald (pc := 122) hx41 (by decide +kernel) (by exact ev_ab_227) ?_
      intro y42
      refine ev_r_stat (pc := 123) (y := 77) (kind := 2) (mi := 30) (na := 2) (as := [.long y39, .long y42]) (rest := [ev_nv r37]) (encc := ev_oI) (Q := ev_rng) (fun x S1 h => jt_30 d (by omega) Q y39 y42  s36 x S1 h) (Or.inl rfl) (by decide +kernel) (by decide +kernel) (by decide +kernel) (by decide +kernel) rfl (by (try simp only [ev_sum, ev_nv_cat]); first | done | rfl) ?_
      intro x44 s43 hx44
      show ev_w _ _ _ _ _ [.int (Int32.ofInt x44), ev_nv r37] _ _ _ _
      refine ev_r_chk ?_
      intro c45
      refine ev_r_dr (r := r37) (fun v => [.int (Int32.ofInt x44), v]) c45 ?_
      refine ev_r_putI (pc := 126) (y := 81) (ci := 5) (f := 19) hx44 (by decide +kernel) (by decide +kernel) (by exact (hr37.resolve_left c45)) rfl rfl ?_
      intro s46
      refine ev_r_aload_n (pc := 129) (k := 0) (v := .ref 221) trivial (by decide +kernel) (by exact (ev_l1 e11 (by decide) (by decide))) ?_
      refine ev_r_virt (pc := 130) (y := 84) (mi := 40) (na := 0) (k := 221) (as := []) (rest := []) (encc := ev_oU) (Q := ev_PU) (fun x S1 h => jt_40 d (by omega) Q   s46 x S1 h) (by exact ev_ob_221) (by decide +kernel) (by decide +kernel) (by decide +kernel) (by decide +kernel) rfl (by (try simp only [ev_sum, ev_nv_cat]); first | done | rfl) ?_
      intro _ s47 _
      show ev_w _ _ _ _ _ [] _ _ _ _
      refine ev_r_aload_n (pc := 133) (k := 0) (v := .ref 221) trivial (by decide +kernel) (by exact (ev_l1 e11 (by decide) (by decide))) ?_
      refine ev_r_getR (pc := 134) (y := 47) (ci := 2) (f := 9) (fin := 0) (t := 5) (by decide +kernel) (by decide +kernel) (by exact ev_ob_221) rfl rfl ?_
      intro r48 hr48
      have hr48 : r48 = 0 ∨ ev_isOb (r48 - 1) 5 = true := hr48
      refine ev_r_aload_n (pc := 137) (k := 0) (v := .ref 221) trivial (by decide +kernel) (by exact (ev_l1 e11 (by decide) (by decide))) ?_
      refine ev_r_getC (pc := 138) (y := 17) (ci := 2) (f := 1) (fin := 1) (k' := 223) (by decide +kernel) (by decide +kernel) (by exact ev_ob_221) rfl rfl ?_
      refine ev_r_iload_n (pc := 141) (k := 2) (v := Int32.ofInt x16) (by decide +kernel) (by exact ev_lk_st1_self) ?_
      refine ev_r_iald (pc := 142) hx16 (by decide +kernel) (by exact ev_ab_223) ?_
      intro x49 hx49
      refine ev_r_sipush (pc := 143) (k := 200) (by decide +kernel) (by decide +kernel) ?_
      refine ev_r_jn (Q := fun K => ∀ (x51 : Int) (hx51 : ev_rng x51), ∀ (r50 : Nat) (hr50 : r50 = 0 ∨ ev_isOb (r50 - 1) 5 = true), ∀ (s54 : ev_St) (w52 : List (Nat × Value)), ev_lk w52 0 = some (.ref 221) → ev_w none (ev_Mof 29) d 161 w52 [.int (Int32.ofInt x51), ev_nv r50] s54 (K x51 r50 s54) ev_eU ev_PU) ?_ ?_
      · intro x51 hx51 r50 hr50 s54 w52 e53
        refine ev_r_chk ?_
        intro c55
        refine ev_r_dr (r := r50) (fun v => [.int (Int32.ofInt x51), v]) c55 ?_
        refine ev_r_chk ?_
        intro c57
        refine ev_r_putI (pc := 161) (y := 91) (ci := 5) (f := 14) hx51 (by decide +kernel) (by decide +kernel) (by exact (hr50.resolve_left c55)) rfl (ev_fit_bl c57) ?_
        intro s56
        refine ev_r_aload_n (pc := 164) (k := 0) (v := .ref 221) trivial (by decide +kernel) (by exact e53) ?_
        refine ev_r_getR (pc := 165) (y := 47) (ci := 2) (f := 9) (fin := 0) (t := 5) (by decide +kernel) (by decide +kernel) (by exact ev_ob_221) rfl rfl ?_
        intro r58 hr58
        have hr58 : r58 = 0 ∨ ev_isOb (r58 - 1) 5 = true := hr58
        refine ev_r_aload_n (pc := 168) (k := 0) (v := .ref 221) trivial (by decide +kernel) (by exact e53) ?_
        refine ev_r_getR (pc := 169) (y := 47) (ci := 2) (f := 9) (fin := 0) (t := 5) (by decide +kernel) (by decide +kernel) (by exact ev_ob_221) rfl rfl ?_
        intro r59 hr59
        have hr59 : r59 = 0 ∨ ev_isOb (r59 - 1) 5 = true := hr59
        refine ev_r_chk ?_
        intro c60
        refine ev_r_dr (r := r59) (fun v => [v, ev_nv r58]) c60 ?_
        refine ev_r_getI (pc := 172) (y := 91) (ci := 5) (f := 14) (fin := 0) (by decide +kernel) (by decide +kernel) (by exact (hr59.resolve_left c60)) rfl ?_
        intro x61 hx61
        refine ev_r_jn (Q := fun K => ∀ (x63 : Int) (hx63 : ev_rng x63), ∀ (r62 : Nat) (hr62 : r62 = 0 ∨ ev_isOb (r62 - 1) 5 = true), ∀ (s66 : ev_St) (w64 : List (Nat × Value)), ev_lk w64 0 = some (.ref 221) → ev_w none (ev_Mof 29) d 190 w64 [.int (Int32.ofInt x63), ev_nv r62] s66 (K x63 r62 s66) ev_eU ev_PU) ?_ ?_
        · intro x63 hx63 r62 hr62 s66 w64 e65
          refine ev_r_chk ?_
          intro c67
          refine ev_r_dr (r := r62) (fun v => [.int (Int32.ofInt x63), v]) c67 ?_
          refine ev_r_chk ?_
          intro c69
          refine ev_r_putI (pc := 190) (y := 98) (ci := 5) (f := 15) hx63 (by decide +kernel) (by decide +kernel) (by exact (hr62.resolve_left c67)) rfl (ev_fit_bl c69) ?_
          intro s68
          refine ev_r_aload_n (pc := 193) (k := 0) (v := .ref 221) trivial (by decide +kernel) (by exact e65) ?_
          refine ev_r_getR (pc := 194) (y := 47) (ci := 2) (f := 9) (fin := 0) (t := 5) (by decide +kernel) (by decide +kernel) (by exact ev_ob_221) rfl rfl ?_
          intro r70 hr70
          have hr70 : r70 = 0 ∨ ev_isOb (r70 - 1) 5 = true := hr70
          refine ev_r_chk ?_
          intro c71
          refine ev_r_dr (r := r70) (fun v => [v]) c71 ?_
          refine ev_r_getI (pc := 197) (y := 91) (ci := 5) (f := 14) (fin := 0) (by decide +kernel) (by decide +kernel) (by exact (hr70.resolve_left c71)) rfl ?_
          intro x72 hx72
          refine ev_r_if (pc := 200) (q := .eq) (o := 25) (t := 225) (c := x72 = 0) (by decide +kernel) (ev_k_eq hx72 ev_rng0) (by decide +kernel) ?_ ?_
          · intro c73
            exact ev_r_return (pc := 225) (x := ()) trivial (by decide +kernel) (by decide +kernel) rfl
          · intro c73
            refine ev_r_aload_n (pc := 203) (k := 0) (v := .ref 221) trivial (by decide +kernel) (by exact e65) ?_
            refine ev_r_getR (pc := 204) (y := 47) (ci := 2) (f := 9) (fin := 0) (t := 5) (by decide +kernel) (by decide +kernel) (by exact ev_ob_221) rfl rfl ?_
            intro r74 hr74
            have hr74 : r74 = 0 ∨ ev_isOb (r74 - 1) 5 = true := hr74
            refine ev_r_chk ?_
            intro c75
            refine ev_r_dr (r := r74) (fun v => [v]) c75 ?_
            refine ev_r_getC (pc := 207) (y := 101) (ci := 5) (f := 13) (fin := 2) (k' := ((r74 - 1) + 12)) (by decide +kernel) (by decide +kernel) (by exact (hr74.resolve_left c75)) rfl rfl ?_
            refine ev_r_aload_n (pc := 210) (k := 0) (v := .ref 221) trivial (by decide +kernel) (by exact e65) ?_
            refine ev_r_getR (pc := 211) (y := 47) (ci := 2) (f := 9) (fin := 0) (t := 5) (by decide +kernel) (by decide +kernel) (by exact ev_ob_221) rfl rfl ?_
            intro r76 hr76
            have hr76 : r76 = 0 ∨ ev_isOb (r76 - 1) 5 = true := hr76
            refine ev_r_aload_n (pc := 214) (k := 0) (v := .ref 221) trivial (by decide +kernel) (by exact e65) ?_
            refine ev_r_getC (pc := 215) (y := 33) (ci := 2) (f := 6) (fin := 1) (k' := 228) (by decide +kernel) (by decide +kernel) (by exact ev_ob_221) rfl rfl ?_
            refine ev_r_aload_n (pc := 218) (k := 0) (v := .ref 221) trivial (by decide +kernel) (by exact e65) ?_
            refine ev_r_getC (pc := 219) (y := 36) (ci := 2) (f := 7) (fin := 1) (k' := 229) (by decide +kernel) (by decide +kernel) (by exact ev_ob_221) rfl rfl ?_
            refine ev_r_virt (pc := 222) (y := 105) (mi := 71) (na := 3) (k := ((r74 - 1) + 12)) (as := [ev_nv r76, ev_nv ((228 + 1)), ev_nv ((229 + 1))]) (rest := []) (encc := ev_oU) (Q := ev_PU) (fun x S1 h => jt_71 d (by omega) Q (((r74 - 1) + 12)) r76 ((228 + 1)) ((229 + 1)) (ev_fo_5_13 (hr74.resolve_left c75)) (by exact hr76) (by exact (Or.inr ev_ab_228)) (by exact (Or.inr ev_ab_229)) s68 x S1 h) (by exact (ev_fo_5_13 (hr74.resolve_left c75))) (by decide +kernel) (by decide +kernel) (by decide +kernel) (by decide +kernel) rfl (by (try simp only [ev_sum, ev_nv_cat]); first | done | rfl) ?_
            intro _ s77 _
            show ev_w _ _ _ _ _ [] _ _ _ _
            exact ev_r_return (pc := 225) (x := ()) trivial (by decide +kernel) (by decide +kernel) rfl
        · intro K190 hK190
          refine ev_r_jn (Q := fun K => ∀ (r78 : Nat) (hr78 : r78 = 0 ∨ ev_isOb (r78 - 1) 5 = true), ∀ (s81 : ev_St) (w79 : List (Nat × Value)), ev_lk w79 0 = some (.ref 221) → ev_w none (ev_Mof 29) d 189 w79 [ev_nv r78] s81 (K r78 s81) ev_eU ev_PU) ?_ ?_
          · intro r78 hr78 s81 w79 e80
            refine ev_r_iconst (pc := 189) (k := 0) (by decide +kernel) ?_
            exact hK190 0 (by decide) r78 hr78 s81 _ (by exact e80)
          · intro K189 hK189
            refine ev_r_if (pc := 175) (q := .eq) (o := 14) (t := 189) (c := x61 = 0) (by decide +kernel) (ev_k_eq hx61 ev_rng0) (by decide +kernel) ?_ ?_
            · intro c82
              exact hK189 r58 hr58 s56 _ (by exact e53)
            · intro c82
              refine ev_r_aload_n (pc := 178) (k := 0) (v := .ref 221) trivial (by decide +kernel) (by exact e53) ?_
              refine ev_r_virt (pc := 179) (y := 95) (mi := 39) (na := 0) (k := 221) (as := []) (rest := [ev_nv r58]) (encc := ev_oI) (Q := ev_bl) (fun x S1 h => jt_39 d (by omega) Q   s56 x S1 h) (by exact ev_ob_221) (by decide +kernel) (by decide +kernel) (by decide +kernel) (by decide +kernel) rfl (by (try simp only [ev_sum, ev_nv_cat]); first | done | rfl) ?_
              intro x84 s83 hx84
              replace hx84 := ev_bl_rng hx84
              show ev_w _ _ _ _ _ [.int (Int32.ofInt x84), ev_nv r58] _ _ _ _
              refine ev_r_if (pc := 182) (q := .ne) (o := 7) (t := 189) (c := x84 ≠ 0) (by decide +kernel) (ev_k_ne hx84 ev_rng0) (by decide +kernel) ?_ ?_
              · intro c85
                exact hK189 r58 hr58 s83 _ (by exact e53)
              · intro c85
                refine ev_r_iconst (pc := 185) (k := 1) (by decide +kernel) ?_
                refine ev_r_goto (pc := 186) (o := 4) (t := 190) (by decide +kernel) (by decide +kernel) ?_
                exact hK190 1 (by decide) r58 hr58 s83 _ (by exact e53)
      · intro K161 hK161
        refine ev_r_jn (Q := fun K => ∀ (r86 : Nat) (hr86 : r86 = 0 ∨ ev_isOb (r86 - 1) 5 = true), ∀ (s89 : ev_St) (w87 : List (Nat × Value)), ev_lk w87 0 = some (.ref 221) → ev_w none (ev_Mof 29) d 160 w87 [ev_nv r86] s89 (K r86 s89) ev_eU ev_PU) ?_ ?_
        · intro r86 hr86 s89 w87 e88
          refine ev_r_iconst (pc := 160) (k := 0) (by decide +kernel) ?_
          exact hK161 0 (by decide) r86 hr86 s89 _ (by exact e88)
        · intro K160 hK160
          refine ev_r_icmp (pc := 146) (q := .gt) (o := 14) (t := 160) (c := 200 < x49) (by decide +kernel) (ev_k_gt hx49 (by decide)) (by decide +kernel) ?_ ?_
          · intro c90
            exact hK160 r48 hr48 s47 _ (by exact (ev_l1 e11 (by decide) (by decide)))
          · intro c90
            refine ev_r_aload_n (pc := 149) (k := 0) (v := .ref 221) trivial (by decide +kernel) (by exact (ev_l1 e11 (by decide) (by decide))) ?_
            refine ev_r_virt (pc := 150) (y := 87) (mi := 38) (na := 0) (k := 221) (as := []) (rest := [ev_nv r48]) (encc := ev_oI) (Q := ev_bl) (fun x S1 h => jt_38 d (by omega) Q   s47 x S1 h) (by exact ev_ob_221) (by decide +kernel) (by decide +kernel) (by decide +kernel) (by decide +kernel) rfl (by (try simp only [ev_sum, ev_nv_cat]); first | done | rfl) ?_
            intro x92 s91 hx92
            replace hx92 := ev_bl_rng hx92
            show ev_w _ _ _ _ _ [.int (Int32.ofInt x92), ev_nv r48] _ _ _ _
            refine ev_r_if (pc := 153) (q := .eq) (o := 7) (t := 160) (c := x92 = 0) (by decide +kernel) (ev_k_eq hx92 ev_rng0) (by decide +kernel) ?_ ?_
            · intro c93
              exact hK160 r48 hr48 s91 _ (by exact (ev_l1 e11 (by decide) (by decide)))
            · intro c93
              refine ev_r_iconst (pc := 156) (k := 1) (by decide +kernel) ?_
              refine ev_r_goto (pc := 157) (o := 4) (t := 161) (by decide +kernel) (by decide +kernel) ?_
              exact hK161 1 (by decide) r48 hr48 s91 _ (by exact (ev_l1 e11 (by decide) (by decide)))
    · intro c21
      exact ev_r_return (pc := 55) (x := ()) trivial (by decide +kernel) (by decide +kernel) rfl
  · intro K36 hK36
    refine ev_r_icmp (pc := 15) (q := .ge) (o := 21) (t := 36) (c := x9 ≤ x2) (by decide +kernel) (ev_k_ge hx2 hx9) (by decide +kernel) ?_ ?_
    · intro c94
      exact hK36  s6 _ (by exact e4)
    · intro c94
      refine ev_r_iload_n (pc := 18) (k := 2) (v := Int32.ofInt x2) (by decide +kernel) (by exact e5) ?_
      refine ev_r_sipush (pc := 19) (k := 400) (by decide +kernel) (by decide +kernel) ?_
      refine ev_r_icmp (pc := 22) (q := .ge) (o := 14) (t := 36) (c := 400 ≤ x2) (by decide +kernel) (ev_k_ge hx2 (by decide)) (by decide +kernel) ?_ ?_
      · intro c95
        exact hK36  s6 _ (by exact e4)
      · intro c95
        refine ev_r_aload_n (pc := 25) (k := 0) (v := .ref 221) trivial (by decide +kernel) (by exact e4) ?_
        refine ev_r_iload_n (pc := 26) (k := 2) (v := Int32.ofInt x2) (by decide +kernel) (by exact e5) ?_
        refine ev_r_virt (pc := 27) (y := 55) (mi := 31) (na := 1) (k := 221) (as := [.int (Int32.ofInt x2)]) (rest := []) (encc := ev_oU) (Q := ev_PU) (fun x S1 h => jt_31 d (by omega) Q x2 hx2 s6 x S1 h) (by exact ev_ob_221) (by decide +kernel) (by decide +kernel) (by decide +kernel) (by decide +kernel) rfl (by (try simp only [ev_sum, ev_nv_cat]); first | done | rfl) ?_
        intro _ s96 _
        show ev_w _ _ _ _ _ [] _ _ _ _
        refine ev_r_iinc (pc := 30) (k := 2) (c := 1) (x := x2) (by decide +kernel) (by decide +kernel) (by exact e5) (fun _ => rfl) ?_
        intro x97 hx97
        refine ev_r_goto (pc := 33) (o := (-26)) (t := 7) (by decide +kernel) (by decide +kernel) ?_
        exact hK7 x97 hx97 s96 _ (by exact (ev_l1 e4 (by decide) (by decide))) (by exact ev_lk_st1_self)
theorem jlt_29_7 (d : Nat) (hd : 6 ≤ d + 1) (Q : Nat)     : ∀ q : Nat, ∀ (x2 : Int) (hx2 : ev_rng x2), ∀ (s6 : ev_St) (w3 : List (Nat × Value)), ev_lk w3 0 = some (.ref 221) → ev_lk w3 2 = some (.int (Int32.ofInt x2)) → ev_w none (ev_Mof 29) d 7 w3 [] s6 (jl_29_7 Q   q x2 s6) ev_eU ev_PU := by
  intro q
  induction q with
  | zero =>
    intro x2 hx2 s6 w3 e4 e5
    exact ev_w_none
  | succ q ih => exact jbt_29_7 d hd Q     _ ih
/-- MendBench$Facts.learn(LMendBench$Pattern;)V -/
def jm_29 (Q : Nat) (a0 : Nat) (S : ev_St) : Option ((Unit) × ev_St) := ev_b (ev_pR S 221 9 a0) fun s1 => jl_29_7 Q   Q 0 s1
theorem jt_29 (d : Nat) (hd : 6 ≤ d) (Q : Nat) (a0 : Nat) (ha0 : a0 = 0 ∨ ev_isOb (a0 - 1) 5 = true) (S : ev_St) (x : Unit) (S' : ev_St) (hJ : jm_29 Q a0 S = some (x, S')) : ev_Ref d 29 [.ref 221, ev_nv a0] S (ev_eU x) S' (ev_PU x) := by
  obtain ⟨d, rfl⟩ : ∃ e, d = e + 1 := ⟨d - 1, by omega⟩
  refine ev_ref_of (P := ev_PU) (lv := [(0, .ref 221), (1, ev_nv a0)]) (by decide +kernel) (by (try simp only [ev_sum, ev_nv_cat]); first | done | rfl) (by (try simp only [lv_args, ev_nv_cat]); first | done | rfl) ?_ x S' hJ
  unfold jm_29
  refine ev_r_aload_n (pc := 0) (k := 0) (v := .ref 221) trivial (by decide +kernel) (by rfl) ?_
  refine ev_r_aload_n (pc := 1) (k := 1) (v := ev_nv a0) (ev_isR_nv _) (by decide +kernel) (by rfl) ?_
  refine ev_r_putR (pc := 2) (y := 47) (ci := 2) (f := 9) (r := a0) (t := 5) (by exact ha0) (by decide +kernel) (by decide +kernel) (by exact ev_ob_221) rfl rfl (by cases a0 <;> rfl) ?_
  intro s1
  refine ev_r_iconst (pc := 5) (k := 0) (by decide +kernel) ?_
  refine ev_r_istore_n (pc := 6) (k := 2) (by decide +kernel) (by decide +kernel) rfl ?_
  exact jlt_29_7 d hd Q     Q 0 (by decide) s1 _ (by exact (ev_l1 (by rfl) (by decide) (by decide))) (by exact ev_lk_st1_self)
/-- MendBench$Mender.start(LMendBench$Text;)V -/
def jm_43 (Q : Nat) (a0 : Nat) (S : ev_St) : Option ((Unit) × ev_St) := ev_bd (jm_153 Q 270 a0 S) fun _ s1 => ev_b (ev_pI s1 269 9 0) fun s2 => ev_b (ev_pI s2 269 10 0) fun s3 => some ((), s3)
theorem jt_43 (d : Nat) (hd : 2 ≤ d) (Q : Nat) (a0 : Nat) (ha0 : a0 = 0 ∨ ev_isOb (a0 - 1) 10 = true) (S : ev_St) (x : Unit) (S' : ev_St) (hJ : jm_43 Q a0 S = some (x, S')) : ev_Ref d 43 [.ref 269, ev_nv a0] S (ev_eU x) S' (ev_PU x) := by
  obtain ⟨d, rfl⟩ : ∃ e, d = e + 1 := ⟨d - 1, by omega⟩
  refine ev_ref_of (P := ev_PU) (lv := [(0, .ref 269), (1, ev_nv a0)]) (by decide +kernel) (by (try simp only [ev_sum, ev_nv_cat]); first | done | rfl) (by (try simp only [lv_args, ev_nv_cat]); first | done | rfl) ?_ x S' hJ
  unfold jm_43
  refine ev_r_aload_n (pc := 0) (k := 0) (v := .ref 269) trivial (by decide +kernel) (by rfl) ?_
  refine ev_r_getC (pc := 1) (y := 14) (ci := 3) (f := 0) (fin := 1) (k' := 270) (by decide +kernel) (by decide +kernel) (by exact ev_ob_269) rfl rfl ?_
  refine ev_r_aload_n (pc := 4) (k := 1) (v := ev_nv a0) (ev_isR_nv _) (by decide +kernel) (by rfl) ?_
  refine ev_r_virt (pc := 5) (y := 43) (mi := 153) (na := 1) (k := 270) (as := [ev_nv a0]) (rest := []) (encc := ev_oU) (Q := ev_PU) (fun x S1 h => jt_153 d (by omega) Q 270 a0 ev_ob_270 (by exact ha0) S x S1 h) (by exact ev_ob_270) (by decide +kernel) (by decide +kernel) (by decide +kernel) (by decide +kernel) rfl (by (try simp only [ev_sum, ev_nv_cat]); first | done | rfl) ?_
  intro _ s1 _
  show ev_w _ _ _ _ _ [] _ _ _ _
  refine ev_r_aload_n (pc := 8) (k := 0) (v := .ref 269) trivial (by decide +kernel) (by rfl) ?_
  refine ev_r_iconst (pc := 9) (k := 0) (by decide +kernel) ?_
  refine ev_r_putI (pc := 10) (y := 47) (ci := 3) (f := 9) (by decide) (by decide +kernel) (by decide +kernel) (by exact ev_ob_269) rfl rfl ?_
  intro s2
  refine ev_r_aload_n (pc := 13) (k := 0) (v := .ref 269) trivial (by decide +kernel) (by rfl) ?_
  refine ev_r_iconst (pc := 14) (k := 0) (by decide +kernel) ?_
  refine ev_r_putI (pc := 15) (y := 51) (ci := 3) (f := 10) (by decide) (by decide +kernel) (by decide +kernel) (by exact ev_ob_269) rfl rfl ?_
  intro s3
  exact ev_r_return (pc := 18) (x := ()) trivial (by decide +kernel) (by decide +kernel) rfl
/-- MendBench$Search.prepare(LMendBench$Pattern;LMendBench$Text;)V -/
def jm_121 (Q : Nat) (a0 : Nat) (a1 : Nat) (S : ev_St) : Option ((Unit) × ev_St) := ev_b (ev_pR S 281 0 a0) fun s1 => ev_b (ev_pR s1 281 1 a1) fun s2 => ev_b (ev_pI s2 281 14 0) fun s3 => ev_b (ev_pI s3 281 10 0) fun s4 => some ((), s4)
theorem jt_121 (d : Nat) (hd : 1 ≤ d) (Q : Nat) (a0 : Nat) (a1 : Nat) (ha0 : a0 = 0 ∨ ev_isOb (a0 - 1) 5 = true) (ha1 : a1 = 0 ∨ ev_isOb (a1 - 1) 10 = true) (S : ev_St) (x : Unit) (S' : ev_St) (hJ : jm_121 Q a0 a1 S = some (x, S')) : ev_Ref d 121 [.ref 281, ev_nv a0, ev_nv a1] S (ev_eU x) S' (ev_PU x) := by
  obtain ⟨d, rfl⟩ : ∃ e, d = e + 1 := ⟨d - 1, by omega⟩
  refine ev_ref_of (P := ev_PU) (lv := [(0, .ref 281), (1, ev_nv a0), (2, ev_nv a1)]) (by decide +kernel) (by (try simp only [ev_sum, ev_nv_cat]); first | done | rfl) (by (try simp only [lv_args, ev_nv_cat]); first | done | rfl) ?_ x S' hJ
  unfold jm_121
  refine ev_r_aload_n (pc := 0) (k := 0) (v := .ref 281) trivial (by decide +kernel) (by rfl) ?_
  refine ev_r_aload_n (pc := 1) (k := 1) (v := ev_nv a0) (ev_isR_nv _) (by decide +kernel) (by rfl) ?_
  refine ev_r_putR (pc := 2) (y := 58) (ci := 8) (f := 0) (r := a0) (t := 5) (by exact ha0) (by decide +kernel) (by decide +kernel) (by exact ev_ob_281) rfl rfl (by cases a0 <;> rfl) ?_
  intro s1
  refine ev_r_aload_n (pc := 5) (k := 0) (v := .ref 281) trivial (by decide +kernel) (by rfl) ?_
  refine ev_r_aload_n (pc := 6) (k := 2) (v := ev_nv a1) (ev_isR_nv _) (by decide +kernel) (by rfl) ?_
  refine ev_r_putR (pc := 7) (y := 27) (ci := 8) (f := 1) (r := a1) (t := 10) (by exact ha1) (by decide +kernel) (by decide +kernel) (by exact ev_ob_281) rfl rfl (by cases a1 <;> rfl) ?_
  intro s2
  refine ev_r_aload_n (pc := 10) (k := 0) (v := .ref 281) trivial (by decide +kernel) (by rfl) ?_
  refine ev_r_iconst (pc := 11) (k := 0) (by decide +kernel) ?_
  refine ev_r_putI (pc := 12) (y := 67) (ci := 8) (f := 14) (by decide) (by decide +kernel) (by decide +kernel) (by exact ev_ob_281) rfl rfl ?_
  intro s3
  refine ev_r_aload_n (pc := 15) (k := 0) (v := .ref 281) trivial (by decide +kernel) (by rfl) ?_
  refine ev_r_iconst (pc := 16) (k := 0) (by decide +kernel) ?_
  refine ev_r_putI (pc := 17) (y := 39) (ci := 8) (f := 10) (by decide) (by decide +kernel) (by decide +kernel) (by exact ev_ob_281) rfl (ev_fit_bl (by decide : ev_bl 0)) ?_
  intro s4
  exact ev_r_return (pc := 20) (x := ()) trivial (by decide +kernel) (by decide +kernel) rfl
/-- MendBench$Search.restore(III)V -/
def jm_132 (Q : Nat) (a0 : Int) (a1 : Int) (a2 : Int) (S : ev_St) : Option ((Unit) × ev_St) := if a0 < 0 then (some ((), S)) else (ev_ck (a0 + 6) fun x2 => ev_b (ev_aln 283 : Int) fun x3 => if x3 < x2 then (some ((), S)) else (ev_b (ev_pI S 281 3 a1) fun s5 => ev_b (ev_pI s5 281 4 a2) fun s6 => ev_ck (a0 + 4) fun x7 => ev_if ((0 : Int) ≤ x7 ∧ x7 < (ev_aln 283 : Int)) (ev_b (s6.1 283 (Int.toNat x7)) fun x8 => ev_b (ev_pI s6 281 5 x8) fun s9 => ev_ck (a0 + 5) fun x10 => ev_if ((0 : Int) ≤ x10 ∧ x10 < (ev_aln 283 : Int)) (ev_b (s9.1 283 (Int.toNat x10)) fun x11 => ev_b (ev_pI s9 281 7 x11) fun s12 => some ((), s12)))))
theorem jt_132 (d : Nat) (hd : 1 ≤ d) (Q : Nat) (a0 : Int) (a1 : Int) (a2 : Int) (ha0 : ev_rng a0) (ha1 : ev_rng a1) (ha2 : ev_rng a2) (S : ev_St) (x : Unit) (S' : ev_St) (hJ : jm_132 Q a0 a1 a2 S = some (x, S')) : ev_Ref d 132 [.ref 281, .int (Int32.ofInt a0), .int (Int32.ofInt a1), .int (Int32.ofInt a2)] S (ev_eU x) S' (ev_PU x) := by
  obtain ⟨d, rfl⟩ : ∃ e, d = e + 1 := ⟨d - 1, by omega⟩
  refine ev_ref_of (P := ev_PU) (lv := [(0, .ref 281), (1, .int (Int32.ofInt a0)), (2, .int (Int32.ofInt a1)), (3, .int (Int32.ofInt a2))]) (by decide +kernel) (by (try simp only [ev_sum, ev_nv_cat]); first | done | rfl) (by (try simp only [lv_args, ev_nv_cat]); first | done | rfl) ?_ x S' hJ
  unfold jm_132
  refine ev_r_iload_n (pc := 0) (k := 1) (v := Int32.ofInt a0) (by decide +kernel) (by rfl) ?_
  refine ev_r_if (pc := 1) (q := .lt) (o := 49) (t := 50) (c := a0 < 0) (by decide +kernel) (ev_k_lt ha0 ev_rng0) (by decide +kernel) ?_ ?_
  · intro c1
    exact ev_r_return (pc := 50) (x := ()) trivial (by decide +kernel) (by decide +kernel) rfl
  · intro c1
    refine ev_r_iload_n (pc := 4) (k := 1) (v := Int32.ofInt a0) (by decide +kernel) (by rfl) ?_
    refine ev_r_bipush (pc := 5) (k := 6) (by decide +kernel) (by decide +kernel) ?_
    refine ev_r_iadd (pc := 7) (by decide +kernel) ?_
    intro x2 hx2
    refine ev_r_aload_n (pc := 8) (k := 0) (v := .ref 281) trivial (by decide +kernel) (by rfl) ?_
    refine ev_r_getC (pc := 9) (y := 18) (ci := 8) (f := 8) (fin := 1) (k' := 283) (by decide +kernel) (by decide +kernel) (by exact ev_ob_281) rfl rfl ?_
    refine ev_r_alen (pc := 12) (kd := 1) (ty := .int) (Or.inl rfl) (by decide +kernel) (by exact ev_ab_283) ?_
    intro x3 hx3
    refine ev_r_icmp (pc := 13) (q := .gt) (o := 37) (t := 50) (c := x3 < x2) (by decide +kernel) (ev_k_gt hx2 hx3) (by decide +kernel) ?_ ?_
    · intro c4
      exact ev_r_return (pc := 50) (x := ()) trivial (by decide +kernel) (by decide +kernel) rfl
    · intro c4
      refine ev_r_aload_n (pc := 16) (k := 0) (v := .ref 281) trivial (by decide +kernel) (by rfl) ?_
      refine ev_r_iload_n (pc := 17) (k := 2) (v := Int32.ofInt a1) (by decide +kernel) (by rfl) ?_
      refine ev_r_putI (pc := 18) (y := 70) (ci := 8) (f := 3) ha1 (by decide +kernel) (by decide +kernel) (by exact ev_ob_281) rfl rfl ?_
      intro s5
      refine ev_r_aload_n (pc := 21) (k := 0) (v := .ref 281) trivial (by decide +kernel) (by rfl) ?_
      refine ev_r_iload_n (pc := 22) (k := 3) (v := Int32.ofInt a2) (by decide +kernel) (by rfl) ?_
      refine ev_r_putI (pc := 23) (y := 73) (ci := 8) (f := 4) ha2 (by decide +kernel) (by decide +kernel) (by exact ev_ob_281) rfl rfl ?_
      intro s6
      refine ev_r_aload_n (pc := 26) (k := 0) (v := .ref 281) trivial (by decide +kernel) (by rfl) ?_
      refine ev_r_aload_n (pc := 27) (k := 0) (v := .ref 281) trivial (by decide +kernel) (by rfl) ?_
      refine ev_r_getC (pc := 28) (y := 18) (ci := 8) (f := 8) (fin := 1) (k' := 283) (by decide +kernel) (by decide +kernel) (by exact ev_ob_281) rfl rfl ?_
      refine ev_r_iload_n (pc := 31) (k := 1) (v := Int32.ofInt a0) (by decide +kernel) (by rfl) ?_
      refine ev_r_iconst (pc := 32) (k := 4) (by decide +kernel) ?_
      refine ev_r_iadd (pc := 33) (by decide +kernel) ?_
      intro x7 hx7
      refine ev_r_iald (pc := 34) hx7 (by decide +kernel) (by exact ev_ab_283) ?_
      intro x8 hx8
      refine ev_r_putI (pc := 35) (y := 76) (ci := 8) (f := 5) hx8 (by decide +kernel) (by decide +kernel) (by exact ev_ob_281) rfl rfl ?_
      intro s9
      refine ev_r_aload_n (pc := 38) (k := 0) (v := .ref 281) trivial (by decide +kernel) (by rfl) ?_
      refine ev_r_aload_n (pc := 39) (k := 0) (v := .ref 281) trivial (by decide +kernel) (by rfl) ?_
      refine ev_r_getC (pc := 40) (y := 18) (ci := 8) (f := 8) (fin := 1) (k' := 283) (by decide +kernel) (by decide +kernel) (by exact ev_ob_281) rfl rfl ?_
      refine ev_r_iload_n (pc := 43) (k := 1) (v := Int32.ofInt a0) (by decide +kernel) (by rfl) ?_
      refine ev_r_iconst (pc := 44) (k := 5) (by decide +kernel) ?_
      refine ev_r_iadd (pc := 45) (by decide +kernel) ?_
      intro x10 hx10
      refine ev_r_iald (pc := 46) hx10 (by decide +kernel) (by exact ev_ab_283) ?_
      intro x11 hx11
      refine ev_r_putI (pc := 47) (y := 79) (ci := 8) (f := 7) hx11 (by decide +kernel) (by decide +kernel) (by exact ev_ob_281) rfl rfl ?_
      intro s12
      exact ev_r_return (pc := 50) (x := ()) trivial (by decide +kernel) (by decide +kernel) rfl
def jb_135_4 (Q : Nat)   (K4 : Int → ev_St → Option ((Int) × ev_St)) (x2 : Int) (s6 : ev_St) : Option ((Int) × ev_St) := if x2 < 0 then (some ((-1), s6)) else (ev_ck (6 * x2) fun x8 => ev_ck (x8 + 6) fun x9 => ev_b (ev_aln 283 : Int) fun x10 => ev_jn (fun  (s14 : ev_St) => ev_ck (x2 + (-1)) fun x15 => K4 x15 s14) fun K37 => if x10 < x9 then (K37  s6) else (ev_if ((0 : Int) ≤ x8 ∧ x8 < (ev_aln 283 : Int)) (ev_b (s6.1 283 (Int.toNat x8)) fun x17 => if x17 ≠ 1 then (K37  s6) else (some (x2, s6)))))
def jl_135_4 (Q : Nat)   : Nat → Int → ev_St → Option ((Int) × ev_St)
  | 0 => fun _ _ => none
  | q + 1 => jb_135_4 Q   (jl_135_4 Q   q)
theorem jbt_135_4 (d : Nat) (hd : 1 ≤ d + 1) (Q : Nat)     (K4 : Int → ev_St → Option ((Int) × ev_St)) (hK4 : ∀ (x2 : Int) (hx2 : ev_rng x2), ∀ (s6 : ev_St) (w3 : List (Nat × Value)), ev_lk w3 0 = some (.ref 281) → ev_lk w3 2 = some (.int (Int32.ofInt x2)) → ev_w none (ev_Mof 135) d 4 w3 [] s6 (K4 x2 s6) ev_eI ev_rng) : ∀ (x2 : Int) (hx2 : ev_rng x2), ∀ (s6 : ev_St) (w3 : List (Nat × Value)), ev_lk w3 0 = some (.ref 281) → ev_lk w3 2 = some (.int (Int32.ofInt x2)) → ev_w none (ev_Mof 135) d 4 w3 [] s6 (jb_135_4 Q   K4 x2 s6) ev_eI ev_rng := by
  intro x2 hx2 s6 w3 e4 e5
  unfold jb_135_4
  refine ev_r_iload_n (pc := 4) (k := 2) (v := Int32.ofInt x2) (by decide +kernel) (by exact e5) ?_
  refine ev_r_if (pc := 5) (q := .lt) (o := 38) (t := 43) (c := x2 < 0) (by decide +kernel) (ev_k_lt hx2 ev_rng0) (by decide +kernel) ?_ ?_
  · intro c7
    refine ev_r_iconst (pc := 43) (k := -1) (by decide +kernel) ?_
    exact ev_r_ireturn (pc := 44) (x := (-1)) (v := Int32.ofInt ((-1))) (ty := .int) (by decide) (by decide +kernel) (by decide +kernel) rfl rfl
  · intro c7
    refine ev_r_bipush (pc := 8) (k := 6) (by decide +kernel) (by decide +kernel) ?_
    refine ev_r_iload_n (pc := 10) (k := 2) (v := Int32.ofInt x2) (by decide +kernel) (by exact e5) ?_
    refine ev_r_imul (pc := 11) (by decide +kernel) ?_
    intro x8 hx8
    refine ev_r_istore_n (pc := 12) (k := 3) (by decide +kernel) (by decide +kernel) rfl ?_
    refine ev_r_iload_n (pc := 13) (k := 3) (v := Int32.ofInt x8) (by decide +kernel) (by exact ev_lk_st1_self) ?_
    refine ev_r_bipush (pc := 14) (k := 6) (by decide +kernel) (by decide +kernel) ?_
    refine ev_r_iadd (pc := 16) (by decide +kernel) ?_
    intro x9 hx9
    refine ev_r_aload_n (pc := 17) (k := 0) (v := .ref 281) trivial (by decide +kernel) (by exact (ev_l1 e4 (by decide) (by decide))) ?_
    refine ev_r_getC (pc := 18) (y := 18) (ci := 8) (f := 8) (fin := 1) (k' := 283) (by decide +kernel) (by decide +kernel) (by exact ev_ob_281) rfl rfl ?_
    refine ev_r_alen (pc := 21) (kd := 1) (ty := .int) (Or.inl rfl) (by decide +kernel) (by exact ev_ab_283) ?_
    intro x10 hx10
    refine ev_r_jn (Q := fun K => ∀ (s14 : ev_St) (w11 : List (Nat × Value)), ev_lk w11 0 = some (.ref 281) → ev_lk w11 2 = some (.int (Int32.ofInt x2)) → ev_w none (ev_Mof 135) d 37 w11 [] s14 (K  s14) ev_eI ev_rng) ?_ ?_
    · intro  s14 w11 e12 e13
      refine ev_r_iinc (pc := 37) (k := 2) (c := -1) (x := x2) (by decide +kernel) (by decide +kernel) (by exact e13) (fun _ => rfl) ?_
      intro x15 hx15
      refine ev_r_goto (pc := 40) (o := (-36)) (t := 4) (by decide +kernel) (by decide +kernel) ?_
      exact hK4 x15 hx15 s14 _ (by exact (ev_l1 e12 (by decide) (by decide))) (by exact ev_lk_st1_self)
    · intro K37 hK37
      refine ev_r_icmp (pc := 22) (q := .gt) (o := 15) (t := 37) (c := x10 < x9) (by decide +kernel) (ev_k_gt hx9 hx10) (by decide +kernel) ?_ ?_
      · intro c16
        exact hK37  s6 _ (by exact (ev_l1 e4 (by decide) (by decide))) (by exact (ev_lk_st1 e5 (by decide) rfl))
      · intro c16
        refine ev_r_aload_n (pc := 25) (k := 0) (v := .ref 281) trivial (by decide +kernel) (by exact (ev_l1 e4 (by decide) (by decide))) ?_
        refine ev_r_getC (pc := 26) (y := 18) (ci := 8) (f := 8) (fin := 1) (k' := 283) (by decide +kernel) (by decide +kernel) (by exact ev_ob_281) rfl rfl ?_
        refine ev_r_iload_n (pc := 29) (k := 3) (v := Int32.ofInt x8) (by decide +kernel) (by exact ev_lk_st1_self) ?_
        refine ev_r_iald (pc := 30) hx8 (by decide +kernel) (by exact ev_ab_283) ?_
        intro x17 hx17
        refine ev_r_iconst (pc := 31) (k := 1) (by decide +kernel) ?_
        refine ev_r_icmp (pc := 32) (q := .ne) (o := 5) (t := 37) (c := x17 ≠ 1) (by decide +kernel) (ev_k_ne hx17 (by decide)) (by decide +kernel) ?_ ?_
        · intro c18
          exact hK37  s6 _ (by exact (ev_l1 e4 (by decide) (by decide))) (by exact (ev_lk_st1 e5 (by decide) rfl))
        · intro c18
          refine ev_r_iload_n (pc := 35) (k := 2) (v := Int32.ofInt x2) (by decide +kernel) (by exact (ev_lk_st1 e5 (by decide) rfl)) ?_
          exact ev_r_ireturn (pc := 36) (x := x2) (v := Int32.ofInt x2) (ty := .int) hx2 (by decide +kernel) (by decide +kernel) rfl rfl
theorem jlt_135_4 (d : Nat) (hd : 1 ≤ d + 1) (Q : Nat)     : ∀ q : Nat, ∀ (x2 : Int) (hx2 : ev_rng x2), ∀ (s6 : ev_St) (w3 : List (Nat × Value)), ev_lk w3 0 = some (.ref 281) → ev_lk w3 2 = some (.int (Int32.ofInt x2)) → ev_w none (ev_Mof 135) d 4 w3 [] s6 (jl_135_4 Q   q x2 s6) ev_eI ev_rng := by
  intro q
  induction q with
  | zero =>
    intro x2 hx2 s6 w3 e4 e5
    exact ev_w_none
  | succ q ih => exact jbt_135_4 d hd Q     _ ih
/-- MendBench$Search.wallBelow(I)I -/
def jm_135 (Q : Nat) (a0 : Int) (S : ev_St) : Option ((Int) × ev_St) := ev_ck (a0 - 1) fun x1 => jl_135_4 Q   Q x1 S
theorem jt_135 (d : Nat) (hd : 1 ≤ d) (Q : Nat) (a0 : Int) (ha0 : ev_rng a0) (S : ev_St) (x : Int) (S' : ev_St) (hJ : jm_135 Q a0 S = some (x, S')) : ev_Ref d 135 [.ref 281, .int (Int32.ofInt a0)] S (ev_eI x) S' (ev_rng x) := by
  obtain ⟨d, rfl⟩ : ∃ e, d = e + 1 := ⟨d - 1, by omega⟩
  refine ev_ref_of (P := ev_rng) (lv := [(0, .ref 281), (1, .int (Int32.ofInt a0))]) (by decide +kernel) (by (try simp only [ev_sum, ev_nv_cat]); first | done | rfl) (by (try simp only [lv_args, ev_nv_cat]); first | done | rfl) ?_ x S' hJ
  unfold jm_135
  refine ev_r_iload_n (pc := 0) (k := 1) (v := Int32.ofInt a0) (by decide +kernel) (by rfl) ?_
  refine ev_r_iconst (pc := 1) (k := 1) (by decide +kernel) ?_
  refine ev_r_isub (pc := 2) (by decide +kernel) ?_
  intro x1 hx1
  refine ev_r_istore_n (pc := 3) (k := 2) (by decide +kernel) (by decide +kernel) rfl ?_
  exact jlt_135_4 d hd Q     Q x1 hx1 S _ (by exact (ev_l1 (by rfl) (by decide) (by decide))) (by exact ev_lk_st1_self)
/-- MendBench$Search.takeStep()Z -/
def jm_123 (Q : Nat)  (S : ev_St) : Option ((Int) × ev_St) := ev_b (S.1 281 14) fun x1 => if x1 < 1000 then (ev_b (S.1 281 14) fun x3 => ev_ck (x3 + 1) fun x4 => ev_b (ev_pI S 281 14 x4) fun s5 => some (1, s5)) else (ev_b (ev_pI S 281 10 1) fun s6 => some (0, s6))
theorem jt_123 (d : Nat) (hd : 1 ≤ d) (Q : Nat)   (S : ev_St) (x : Int) (S' : ev_St) (hJ : jm_123 Q  S = some (x, S')) : ev_Ref d 123 [.ref 281] S (ev_eI x) S' (ev_bl x) := by
  obtain ⟨d, rfl⟩ : ∃ e, d = e + 1 := ⟨d - 1, by omega⟩
  refine ev_ref_of (P := ev_bl) (lv := [(0, .ref 281)]) (by decide +kernel) (by (try simp only [ev_sum, ev_nv_cat]); first | done | rfl) (by (try simp only [lv_args, ev_nv_cat]); first | done | rfl) ?_ x S' hJ
  unfold jm_123
  refine ev_r_aload_n (pc := 0) (k := 0) (v := .ref 281) trivial (by decide +kernel) (by rfl) ?_
  refine ev_r_getI (pc := 1) (y := 67) (ci := 8) (f := 14) (fin := 0) (by decide +kernel) (by decide +kernel) (by exact ev_ob_281) rfl ?_
  intro x1 hx1
  refine ev_r_sipush (pc := 4) (k := 1000) (by decide +kernel) (by decide +kernel) ?_
  refine ev_r_icmp (pc := 7) (q := .lt) (o := 10) (t := 17) (c := x1 < 1000) (by decide +kernel) (ev_k_lt hx1 (by decide)) (by decide +kernel) ?_ ?_
  · intro c2
    refine ev_r_aload_n (pc := 17) (k := 0) (v := .ref 281) trivial (by decide +kernel) (by rfl) ?_
    refine ev_r_dup (pc := 18) rfl (by decide +kernel) ?_
    refine ev_r_getI (pc := 19) (y := 67) (ci := 8) (f := 14) (fin := 0) (by decide +kernel) (by decide +kernel) (by exact ev_ob_281) rfl ?_
    intro x3 hx3
    refine ev_r_iconst (pc := 22) (k := 1) (by decide +kernel) ?_
    refine ev_r_iadd (pc := 23) (by decide +kernel) ?_
    intro x4 hx4
    refine ev_r_putI (pc := 24) (y := 67) (ci := 8) (f := 14) hx4 (by decide +kernel) (by decide +kernel) (by exact ev_ob_281) rfl rfl ?_
    intro s5
    refine ev_r_iconst (pc := 27) (k := 1) (by decide +kernel) ?_
    exact ev_r_ireturn (pc := 28) (x := 1) (v := Int32.ofInt 1) (ty := .boolean) (by decide : ev_bl 1) (by decide +kernel) (by decide +kernel) (ev_ret_bl (by decide : ev_bl 1)) rfl
  · intro c2
    refine ev_r_aload_n (pc := 10) (k := 0) (v := .ref 281) trivial (by decide +kernel) (by rfl) ?_
    refine ev_r_iconst (pc := 11) (k := 1) (by decide +kernel) ?_
    refine ev_r_putI (pc := 12) (y := 39) (ci := 8) (f := 10) (by decide) (by decide +kernel) (by decide +kernel) (by exact ev_ob_281) rfl (ev_fit_bl (by decide : ev_bl 1)) ?_
    intro s6
    refine ev_r_iconst (pc := 15) (k := 0) (by decide +kernel) ?_
    exact ev_r_ireturn (pc := 16) (x := 0) (v := Int32.ofInt 0) (ty := .boolean) (by decide : ev_bl 0) (by decide +kernel) (by decide +kernel) (ev_ret_bl (by decide : ev_bl 0)) rfl
/-- MendBench$Search.beginFurther(I)Z -/
def jm_133 (Q : Nat) (a0 : Int) (S : ev_St) : Option ((Int) × ev_St) := ev_ck (a0 + 1) fun x1 => ev_if ((0 : Int) ≤ x1 ∧ x1 < (ev_aln 283 : Int)) (ev_b (S.1 283 (Int.toNat x1)) fun x2 => ev_b (ev_ishr x2 2) fun x3 => ev_b (S.2.2.1 281 0) fun r4 => ev_if (r4 ≠ 0) (ev_bd (jm_59 Q ((r4 - 1)) x3 S) fun x7 s6 => ev_jn (fun (x8 : Int) (x9 : Int) (s14 : ev_St) => if x9 = 0 then (ev_b (s14.1 281 10) fun x16 => ev_if (ev_bl x16) (some (x16, s14))) else (ev_ck (a0 + 2) fun x18 => ev_if ((0 : Int) ≤ x18 ∧ x18 < (ev_aln 283 : Int)) (ev_b (s14.1 283 (Int.toNat x18)) fun x19 => if x19 ≤ 0 then (ev_b (s14.1 281 10) fun x21 => ev_if (ev_bl x21) (some (x21, s14))) else (ev_bd (jm_123 Q  s14) fun x24 s23 => if x24 ≠ 0 then (ev_ck (a0 + 2) fun x26 => ev_if ((0 : Int) ≤ x26 ∧ x26 < (ev_aln 283 : Int)) (ev_b (s23.1 283 (Int.toNat x26)) fun x27 => ev_ck (x27 - 1) fun x28 => ev_if ((0 : Int) ≤ x26 ∧ x26 < (ev_aln 283 : Int)) (ev_b (ev_pI s23 283 (Int.toNat x26) x28) fun s29 => ev_b (s29.1 281 9) fun x30 => ev_ck (x30 + 1) fun x31 => ev_b (ev_pI s29 281 9 x31) fun s32 => ev_ck (a0 + 2) fun x33 => ev_if ((0 : Int) ≤ x33 ∧ x33 < (ev_aln 283 : Int)) (ev_b (s32.1 283 (Int.toNat x33)) fun x34 => ev_ck (a0 + 3) fun x35 => ev_if ((0 : Int) ≤ x35 ∧ x35 < (ev_aln 283 : Int)) (ev_b (s32.1 283 (Int.toNat x35)) fun x36 => ev_bd (jm_132 Q a0 x34 x36 s32) fun _ s37 => ev_b (s37.2.2.1 281 0) fun r38 => ev_if (r38 ≠ 0) (ev_if ((0 : Int) ≤ x8 ∧ x8 < (ev_aln (((r38 - 1) + 6)) : Int)) (ev_b (s37.1 (((r38 - 1) + 6)) (Int.toNat x8)) fun x40 => ev_b (ev_pI s37 281 2 x40) fun s41 => some (1, s41)))))))) else (ev_b (s23.1 281 10) fun x42 => ev_if (ev_bl x42) (some (x42, s23))))))) fun K41 => ev_jn (fun (x44 : Int) (s49 : ev_St) => K41 x44 0 s49) fun K40 => if x7 = 0 then (K40 x3 s6) else (ev_b (s6.2.2.1 281 0) fun r51 => ev_if (r51 ≠ 0) (ev_if ((0 : Int) ≤ x3 ∧ x3 < (ev_aln (((r51 - 1) + 1)) : Int)) (ev_b (s6.1 (((r51 - 1) + 1)) (Int.toNat x3)) fun x53 => if x53 < 22 then (K40 x3 s6) else (K41 x3 1 s6))))))
theorem jt_133 (d : Nat) (hd : 2 ≤ d) (Q : Nat) (a0 : Int) (ha0 : ev_rng a0) (S : ev_St) (x : Int) (S' : ev_St) (hJ : jm_133 Q a0 S = some (x, S')) : ev_Ref d 133 [.ref 281, .int (Int32.ofInt a0)] S (ev_eI x) S' (ev_bl x) := by
  obtain ⟨d, rfl⟩ : ∃ e, d = e + 1 := ⟨d - 1, by omega⟩
  refine ev_ref_of (P := ev_bl) (lv := [(0, .ref 281), (1, .int (Int32.ofInt a0))]) (by decide +kernel) (by (try simp only [ev_sum, ev_nv_cat]); first | done | rfl) (by (try simp only [lv_args, ev_nv_cat]); first | done | rfl) ?_ x S' hJ
  unfold jm_133
  refine ev_r_aload_n (pc := 0) (k := 0) (v := .ref 281) trivial (by decide +kernel) (by rfl) ?_
  refine ev_r_getC (pc := 1) (y := 18) (ci := 8) (f := 8) (fin := 1) (k' := 283) (by decide +kernel) (by decide +kernel) (by exact ev_ob_281) rfl rfl ?_
  refine ev_r_iload_n (pc := 4) (k := 1) (v := Int32.ofInt a0) (by decide +kernel) (by rfl) ?_
  refine ev_r_iconst (pc := 5) (k := 1) (by decide +kernel) ?_
  refine ev_r_iadd (pc := 6) (by decide +kernel) ?_
  intro x1 hx1
  refine ev_r_iald (pc := 7) hx1 (by decide +kernel) (by exact ev_ab_283) ?_
  intro x2 hx2
  refine ev_r_iconst (pc := 8) (k := 2) (by decide +kernel) ?_
  refine ev_r_ishr (pc := 9) (by decide +kernel) ?_
  intro x3 hx3
  refine ev_r_istore_n (pc := 10) (k := 2) (by decide +kernel) (by decide +kernel) rfl ?_
  refine ev_r_aload_n (pc := 11) (k := 0) (v := .ref 281) trivial (by decide +kernel) (by exact (ev_l1 (by rfl) (by decide) (by decide))) ?_
  refine ev_r_getR (pc := 12) (y := 58) (ci := 8) (f := 0) (fin := 0) (t := 5) (by decide +kernel) (by decide +kernel) (by exact ev_ob_281) rfl rfl ?_
  intro r4 hr4
  have hr4 : r4 = 0 ∨ ev_isOb (r4 - 1) 5 = true := hr4
  refine ev_r_iload_n (pc := 15) (k := 2) (v := Int32.ofInt x3) (by decide +kernel) (by exact ev_lk_st1_self) ?_
  refine ev_r_chk ?_
  intro c5
  refine ev_r_dr (r := r4) (fun v => [.int (Int32.ofInt x3), v]) c5 ?_
  refine ev_r_virt (pc := 16) (y := 89) (mi := 59) (na := 1) (k := (r4 - 1)) (as := [.int (Int32.ofInt x3)]) (rest := []) (encc := ev_oI) (Q := ev_bl) (fun x S1 h => jt_59 d (by omega) Q ((r4 - 1)) x3 (hr4.resolve_left c5) hx3 S x S1 h) (by exact (hr4.resolve_left c5)) (by decide +kernel) (by decide +kernel) (by decide +kernel) (by decide +kernel) rfl (by (try simp only [ev_sum, ev_nv_cat]); first | done | rfl) ?_
  intro x7 s6 hx7
  replace hx7 := ev_bl_rng hx7
  show ev_w _ _ _ _ _ [.int (Int32.ofInt x7)] _ _ _ _
  refine ev_r_jn (Q := fun K => ∀ (x8 : Int) (hx8 : ev_rng x8), ∀ (x9 : Int) (hx9 : ev_rng x9), ∀ (s14 : ev_St) (w10 : List (Nat × Value)), ev_lk w10 0 = some (.ref 281) → ev_lk w10 1 = some (.int (Int32.ofInt a0)) → ev_lk w10 2 = some (.int (Int32.ofInt x8)) → ev_w none (ev_Mof 133) d 41 w10 [.int (Int32.ofInt x9)] s14 (K x8 x9 s14) ev_eI ev_bl) ?_ ?_
  · intro x8 hx8 x9 hx9 s14 w10 e11 e12 e13
    refine ev_r_istore_n (pc := 41) (k := 3) (by decide +kernel) (by decide +kernel) rfl ?_
    refine ev_r_iload_n (pc := 42) (k := 3) (v := Int32.ofInt x9) (by decide +kernel) (by exact ev_lk_st1_self) ?_
    refine ev_r_if (pc := 43) (q := .eq) (o := 21) (t := 64) (c := x9 = 0) (by decide +kernel) (ev_k_eq hx9 ev_rng0) (by decide +kernel) ?_ ?_
    · intro c15
      refine ev_r_aload_n (pc := 64) (k := 0) (v := .ref 281) trivial (by decide +kernel) (by exact (ev_l1 e11 (by decide) (by decide))) ?_
      refine ev_r_getI (pc := 65) (y := 39) (ci := 8) (f := 10) (fin := 0) (by decide +kernel) (by decide +kernel) (by exact ev_ob_281) rfl ?_
      intro x16 hx16
      refine ev_r_chk ?_
      intro c17
      exact ev_r_ireturn (pc := 68) (x := x16) (v := Int32.ofInt x16) (ty := .boolean) c17 (by decide +kernel) (by decide +kernel) (ev_ret_bl c17) rfl
    · intro c15
      refine ev_r_aload_n (pc := 46) (k := 0) (v := .ref 281) trivial (by decide +kernel) (by exact (ev_l1 e11 (by decide) (by decide))) ?_
      refine ev_r_getC (pc := 47) (y := 18) (ci := 8) (f := 8) (fin := 1) (k' := 283) (by decide +kernel) (by decide +kernel) (by exact ev_ob_281) rfl rfl ?_
      refine ev_r_iload_n (pc := 50) (k := 1) (v := Int32.ofInt a0) (by decide +kernel) (by exact (ev_l1 e12 (by decide) (by decide))) ?_
      refine ev_r_iconst (pc := 51) (k := 2) (by decide +kernel) ?_
      refine ev_r_iadd (pc := 52) (by decide +kernel) ?_
      intro x18 hx18
      refine ev_r_iald (pc := 53) hx18 (by decide +kernel) (by exact ev_ab_283) ?_
      intro x19 hx19
      refine ev_r_if (pc := 54) (q := .le) (o := 10) (t := 64) (c := x19 ≤ 0) (by decide +kernel) (ev_k_le hx19 ev_rng0) (by decide +kernel) ?_ ?_
      · intro c20
        refine ev_r_aload_n (pc := 64) (k := 0) (v := .ref 281) trivial (by decide +kernel) (by exact (ev_l1 e11 (by decide) (by decide))) ?_
        refine ev_r_getI (pc := 65) (y := 39) (ci := 8) (f := 10) (fin := 0) (by decide +kernel) (by decide +kernel) (by exact ev_ob_281) rfl ?_
        intro x21 hx21
        refine ev_r_chk ?_
        intro c22
        exact ev_r_ireturn (pc := 68) (x := x21) (v := Int32.ofInt x21) (ty := .boolean) c22 (by decide +kernel) (by decide +kernel) (ev_ret_bl c22) rfl
      · intro c20
        refine ev_r_aload_n (pc := 57) (k := 0) (v := .ref 281) trivial (by decide +kernel) (by exact (ev_l1 e11 (by decide) (by decide))) ?_
        refine ev_r_virt (pc := 58) (y := 135) (mi := 123) (na := 0) (k := 281) (as := []) (rest := []) (encc := ev_oI) (Q := ev_bl) (fun x S1 h => jt_123 d (by omega) Q   s14 x S1 h) (by exact ev_ob_281) (by decide +kernel) (by decide +kernel) (by decide +kernel) (by decide +kernel) rfl (by (try simp only [ev_sum, ev_nv_cat]); first | done | rfl) ?_
        intro x24 s23 hx24
        replace hx24 := ev_bl_rng hx24
        show ev_w _ _ _ _ _ [.int (Int32.ofInt x24)] _ _ _ _
        refine ev_r_if (pc := 61) (q := .ne) (o := 8) (t := 69) (c := x24 ≠ 0) (by decide +kernel) (ev_k_ne hx24 ev_rng0) (by decide +kernel) ?_ ?_
        · intro c25
          refine ev_r_aload_n (pc := 69) (k := 0) (v := .ref 281) trivial (by decide +kernel) (by exact (ev_l1 e11 (by decide) (by decide))) ?_
          refine ev_r_getC (pc := 70) (y := 18) (ci := 8) (f := 8) (fin := 1) (k' := 283) (by decide +kernel) (by decide +kernel) (by exact ev_ob_281) rfl rfl ?_
          refine ev_r_iload_n (pc := 73) (k := 1) (v := Int32.ofInt a0) (by decide +kernel) (by exact (ev_l1 e12 (by decide) (by decide))) ?_
          refine ev_r_iconst (pc := 74) (k := 2) (by decide +kernel) ?_
          refine ev_r_iadd (pc := 75) (by decide +kernel) ?_
          intro x26 hx26
          refine ev_r_dup2 (pc := 76) rfl rfl (by decide +kernel) ?_
          refine ev_r_iald (pc := 77) hx26 (by decide +kernel) (by exact ev_ab_283) ?_
          intro x27 hx27
          refine ev_r_iconst (pc := 78) (k := 1) (by decide +kernel) ?_
          refine ev_r_isub (pc := 79) (by decide +kernel) ?_
          intro x28 hx28
          refine ev_r_iast (pc := 80) hx28 hx26 (by decide +kernel) (by exact ev_ab_283) ?_
          intro s29
          refine ev_r_aload_n (pc := 81) (k := 0) (v := .ref 281) trivial (by decide +kernel) (by exact (ev_l1 e11 (by decide) (by decide))) ?_
          refine ev_r_dup (pc := 82) rfl (by decide +kernel) ?_
          refine ev_r_getI (pc := 83) (y := 82) (ci := 8) (f := 9) (fin := 0) (by decide +kernel) (by decide +kernel) (by exact ev_ob_281) rfl ?_
          intro x30 hx30
          refine ev_r_iconst (pc := 86) (k := 1) (by decide +kernel) ?_
          refine ev_r_iadd (pc := 87) (by decide +kernel) ?_
          intro x31 hx31
          refine ev_r_putI (pc := 88) (y := 82) (ci := 8) (f := 9) hx31 (by decide +kernel) (by decide +kernel) (by exact ev_ob_281) rfl rfl ?_
          intro s32
          refine ev_r_aload_n (pc := 91) (k := 0) (v := .ref 281) trivial (by decide +kernel) (by exact (ev_l1 e11 (by decide) (by decide))) ?_
          refine ev_r_iload_n (pc := 92) (k := 1) (v := Int32.ofInt a0) (by decide +kernel) (by exact (ev_l1 e12 (by decide) (by decide))) ?_
          refine ev_r_aload_n (pc := 93) (k := 0) (v := .ref 281) trivial (by decide +kernel) (by exact (ev_l1 e11 (by decide) (by decide))) ?_
          refine ev_r_getC (pc := 94) (y := 18) (ci := 8) (f := 8) (fin := 1) (k' := 283) (by decide +kernel) (by decide +kernel) (by exact ev_ob_281) rfl rfl ?_
          refine ev_r_iload_n (pc := 97) (k := 1) (v := Int32.ofInt a0) (by decide +kernel) (by exact (ev_l1 e12 (by decide) (by decide))) ?_
          refine ev_r_iconst (pc := 98) (k := 2) (by decide +kernel) ?_
          refine ev_r_iadd (pc := 99) (by decide +kernel) ?_
          intro x33 hx33
          refine ev_r_iald (pc := 100) hx33 (by decide +kernel) (by exact ev_ab_283) ?_
          intro x34 hx34
          refine ev_r_aload_n (pc := 101) (k := 0) (v := .ref 281) trivial (by decide +kernel) (by exact (ev_l1 e11 (by decide) (by decide))) ?_
          refine ev_r_getC (pc := 102) (y := 18) (ci := 8) (f := 8) (fin := 1) (k' := 283) (by decide +kernel) (by decide +kernel) (by exact ev_ob_281) rfl rfl ?_
          refine ev_r_iload_n (pc := 105) (k := 1) (v := Int32.ofInt a0) (by decide +kernel) (by exact (ev_l1 e12 (by decide) (by decide))) ?_
          refine ev_r_iconst (pc := 106) (k := 3) (by decide +kernel) ?_
          refine ev_r_iadd (pc := 107) (by decide +kernel) ?_
          intro x35 hx35
          refine ev_r_iald (pc := 108) hx35 (by decide +kernel) (by exact ev_ab_283) ?_
          intro x36 hx36
          refine ev_r_virt (pc := 109) (y := 119) (mi := 132) (na := 3) (k := 281) (as := [.int (Int32.ofInt a0), .int (Int32.ofInt x34), .int (Int32.ofInt x36)]) (rest := []) (encc := ev_oU) (Q := ev_PU) (fun x S1 h => jt_132 d (by omega) Q a0 x34 x36 ha0 hx34 hx36 s32 x S1 h) (by exact ev_ob_281) (by decide +kernel) (by decide +kernel) (by decide +kernel) (by decide +kernel) rfl (by (try simp only [ev_sum, ev_nv_cat]); first | done | rfl) ?_
          intro _ s37 _
          show ev_w _ _ _ _ _ [] _ _ _ _
          refine ev_r_aload_n (pc := 112) (k := 0) (v := .ref 281) trivial (by decide +kernel) (by exact (ev_l1 e11 (by decide) (by decide))) ?_
          refine ev_r_aload_n (pc := 113) (k := 0) (v := .ref 281) trivial (by decide +kernel) (by exact (ev_l1 e11 (by decide) (by decide))) ?_
          refine ev_r_getR (pc := 114) (y := 58) (ci := 8) (f := 0) (fin := 0) (t := 5) (by decide +kernel) (by decide +kernel) (by exact ev_ob_281) rfl rfl ?_
          intro r38 hr38
          have hr38 : r38 = 0 ∨ ev_isOb (r38 - 1) 5 = true := hr38
          refine ev_r_chk ?_
          intro c39
          refine ev_r_dr (r := r38) (fun v => [v, .ref 281]) c39 ?_
          refine ev_r_getC (pc := 117) (y := 93) (ci := 5) (f := 5) (fin := 2) (k' := ((r38 - 1) + 6)) (by decide +kernel) (by decide +kernel) (by exact (hr38.resolve_left c39)) rfl rfl ?_
          refine ev_r_iload_n (pc := 120) (k := 2) (v := Int32.ofInt x8) (by decide +kernel) (by exact (ev_lk_st1 e13 (by decide) rfl)) ?_
          refine ev_r_iald (pc := 121) hx8 (by decide +kernel) (by exact (ev_fo_5_5 (hr38.resolve_left c39))) ?_
          intro x40 hx40
          refine ev_r_putI (pc := 122) (y := 96) (ci := 8) (f := 2) hx40 (by decide +kernel) (by decide +kernel) (by exact ev_ob_281) rfl rfl ?_
          intro s41
          refine ev_r_iconst (pc := 125) (k := 1) (by decide +kernel) ?_
          exact ev_r_ireturn (pc := 126) (x := 1) (v := Int32.ofInt 1) (ty := .boolean) (by decide : ev_bl 1) (by decide +kernel) (by decide +kernel) (ev_ret_bl (by decide : ev_bl 1)) rfl
        · intro c25
          refine ev_r_aload_n (pc := 64) (k := 0) (v := .ref 281) trivial (by decide +kernel) (by exact (ev_l1 e11 (by decide) (by decide))) ?_
          refine ev_r_getI (pc := 65) (y := 39) (ci := 8) (f := 10) (fin := 0) (by decide +kernel) (by decide +kernel) (by exact ev_ob_281) rfl ?_
          intro x42 hx42
          refine ev_r_chk ?_
          intro c43
          exact ev_r_ireturn (pc := 68) (x := x42) (v := Int32.ofInt x42) (ty := .boolean) c43 (by decide +kernel) (by decide +kernel) (ev_ret_bl c43) rfl
  · intro K41 hK41
    refine ev_r_jn (Q := fun K => ∀ (x44 : Int) (hx44 : ev_rng x44), ∀ (s49 : ev_St) (w45 : List (Nat × Value)), ev_lk w45 0 = some (.ref 281) → ev_lk w45 1 = some (.int (Int32.ofInt a0)) → ev_lk w45 2 = some (.int (Int32.ofInt x44)) → ev_w none (ev_Mof 133) d 40 w45 [] s49 (K x44 s49) ev_eI ev_bl) ?_ ?_
    · intro x44 hx44 s49 w45 e46 e47 e48
      refine ev_r_iconst (pc := 40) (k := 0) (by decide +kernel) ?_
      exact hK41 x44 hx44 0 (by decide) s49 _ (by exact e46) (by exact e47) (by exact e48)
    · intro K40 hK40
      refine ev_r_if (pc := 19) (q := .eq) (o := 21) (t := 40) (c := x7 = 0) (by decide +kernel) (ev_k_eq hx7 ev_rng0) (by decide +kernel) ?_ ?_
      · intro c50
        exact hK40 x3 hx3 s6 _ (by exact (ev_l1 (by rfl) (by decide) (by decide))) (by exact (ev_lk_st1 (by rfl) (by decide) rfl)) (by exact ev_lk_st1_self)
      · intro c50
        refine ev_r_aload_n (pc := 22) (k := 0) (v := .ref 281) trivial (by decide +kernel) (by exact (ev_l1 (by rfl) (by decide) (by decide))) ?_
        refine ev_r_getR (pc := 23) (y := 58) (ci := 8) (f := 0) (fin := 0) (t := 5) (by decide +kernel) (by decide +kernel) (by exact ev_ob_281) rfl rfl ?_
        intro r51 hr51
        have hr51 : r51 = 0 ∨ ev_isOb (r51 - 1) 5 = true := hr51
        refine ev_r_chk ?_
        intro c52
        refine ev_r_dr (r := r51) (fun v => [v]) c52 ?_
        refine ev_r_getC (pc := 26) (y := 132) (ci := 5) (f := 0) (fin := 2) (k' := ((r51 - 1) + 1)) (by decide +kernel) (by decide +kernel) (by exact (hr51.resolve_left c52)) rfl rfl ?_
        refine ev_r_iload_n (pc := 29) (k := 2) (v := Int32.ofInt x3) (by decide +kernel) (by exact ev_lk_st1_self) ?_
        refine ev_r_iald (pc := 30) hx3 (by decide +kernel) (by exact (ev_fo_5_0 (hr51.resolve_left c52))) ?_
        intro x53 hx53
        refine ev_r_bipush (pc := 31) (k := 22) (by decide +kernel) (by decide +kernel) ?_
        refine ev_r_icmp (pc := 33) (q := .lt) (o := 7) (t := 40) (c := x53 < 22) (by decide +kernel) (ev_k_lt hx53 (by decide)) (by decide +kernel) ?_ ?_
        · intro c54
          exact hK40 x3 hx3 s6 _ (by exact (ev_l1 (by rfl) (by decide) (by decide))) (by exact (ev_lk_st1 (by rfl) (by decide) rfl)) (by exact ev_lk_st1_self)
        · intro c54
          refine ev_r_iconst (pc := 36) (k := 1) (by decide +kernel) ?_
          refine ev_r_goto (pc := 37) (o := 4) (t := 41) (by decide +kernel) (by decide +kernel) ?_
          exact hK41 x3 hx3 1 (by decide) s6 _ (by exact (ev_l1 (by rfl) (by decide) (by decide))) (by exact (ev_lk_st1 (by rfl) (by decide) rfl)) (by exact ev_lk_st1_self)
/-- MendBench$Search.isFrame(I)Z -/
def jm_126 (Q : Nat) (a0 : Int) (S : ev_St) : Option ((Int) × ev_St) := if a0 < 0 then (some (0, S)) else (ev_ck (a0 + 4) fun x2 => ev_b (S.1 281 7) fun x3 => if x3 < x2 then (some (0, S)) else (ev_b (S.1 281 7) fun x5 => ev_b (ev_aln 282 : Int) fun x6 => if x6 < x5 then (some (0, S)) else (some (1, S))))
theorem jt_126 (d : Nat) (hd : 1 ≤ d) (Q : Nat) (a0 : Int) (ha0 : ev_rng a0) (S : ev_St) (x : Int) (S' : ev_St) (hJ : jm_126 Q a0 S = some (x, S')) : ev_Ref d 126 [.ref 281, .int (Int32.ofInt a0)] S (ev_eI x) S' (ev_bl x) := by
  obtain ⟨d, rfl⟩ : ∃ e, d = e + 1 := ⟨d - 1, by omega⟩
  refine ev_ref_of (P := ev_bl) (lv := [(0, .ref 281), (1, .int (Int32.ofInt a0))]) (by decide +kernel) (by (try simp only [ev_sum, ev_nv_cat]); first | done | rfl) (by (try simp only [lv_args, ev_nv_cat]); first | done | rfl) ?_ x S' hJ
  unfold jm_126
  refine ev_r_iload_n (pc := 0) (k := 1) (v := Int32.ofInt a0) (by decide +kernel) (by rfl) ?_
  refine ev_r_if (pc := 1) (q := .lt) (o := 29) (t := 30) (c := a0 < 0) (by decide +kernel) (ev_k_lt ha0 ev_rng0) (by decide +kernel) ?_ ?_
  · intro c1
    refine ev_r_iconst (pc := 30) (k := 0) (by decide +kernel) ?_
    exact ev_r_ireturn (pc := 31) (x := 0) (v := Int32.ofInt 0) (ty := .boolean) (by decide : ev_bl 0) (by decide +kernel) (by decide +kernel) (ev_ret_bl (by decide : ev_bl 0)) rfl
  · intro c1
    refine ev_r_iload_n (pc := 4) (k := 1) (v := Int32.ofInt a0) (by decide +kernel) (by rfl) ?_
    refine ev_r_iconst (pc := 5) (k := 4) (by decide +kernel) ?_
    refine ev_r_iadd (pc := 6) (by decide +kernel) ?_
    intro x2 hx2
    refine ev_r_aload_n (pc := 7) (k := 0) (v := .ref 281) trivial (by decide +kernel) (by rfl) ?_
    refine ev_r_getI (pc := 8) (y := 79) (ci := 8) (f := 7) (fin := 0) (by decide +kernel) (by decide +kernel) (by exact ev_ob_281) rfl ?_
    intro x3 hx3
    refine ev_r_icmp (pc := 11) (q := .gt) (o := 19) (t := 30) (c := x3 < x2) (by decide +kernel) (ev_k_gt hx2 hx3) (by decide +kernel) ?_ ?_
    · intro c4
      refine ev_r_iconst (pc := 30) (k := 0) (by decide +kernel) ?_
      exact ev_r_ireturn (pc := 31) (x := 0) (v := Int32.ofInt 0) (ty := .boolean) (by decide : ev_bl 0) (by decide +kernel) (by decide +kernel) (ev_ret_bl (by decide : ev_bl 0)) rfl
    · intro c4
      refine ev_r_aload_n (pc := 14) (k := 0) (v := .ref 281) trivial (by decide +kernel) (by rfl) ?_
      refine ev_r_getI (pc := 15) (y := 79) (ci := 8) (f := 7) (fin := 0) (by decide +kernel) (by decide +kernel) (by exact ev_ob_281) rfl ?_
      intro x5 hx5
      refine ev_r_aload_n (pc := 18) (k := 0) (v := .ref 281) trivial (by decide +kernel) (by rfl) ?_
      refine ev_r_getC (pc := 19) (y := 14) (ci := 8) (f := 6) (fin := 1) (k' := 282) (by decide +kernel) (by decide +kernel) (by exact ev_ob_281) rfl rfl ?_
      refine ev_r_alen (pc := 22) (kd := 1) (ty := .int) (Or.inl rfl) (by decide +kernel) (by exact ev_ab_282) ?_
      intro x6 hx6
      refine ev_r_icmp (pc := 23) (q := .gt) (o := 7) (t := 30) (c := x6 < x5) (by decide +kernel) (ev_k_gt hx5 hx6) (by decide +kernel) ?_ ?_
      · intro c7
        refine ev_r_iconst (pc := 30) (k := 0) (by decide +kernel) ?_
        exact ev_r_ireturn (pc := 31) (x := 0) (v := Int32.ofInt 0) (ty := .boolean) (by decide : ev_bl 0) (by decide +kernel) (by decide +kernel) (ev_ret_bl (by decide : ev_bl 0)) rfl
      · intro c7
        refine ev_r_iconst (pc := 26) (k := 1) (by decide +kernel) ?_
        refine ev_r_goto (pc := 27) (o := 4) (t := 31) (by decide +kernel) (by decide +kernel) ?_
        exact ev_r_ireturn (pc := 31) (x := 1) (v := Int32.ofInt 1) (ty := .boolean) (by decide : ev_bl 1) (by decide +kernel) (by decide +kernel) (ev_ret_bl (by decide : ev_bl 1)) rfl
/-- MendBench$Search.passWall(I)Z -/
def jm_134 (Q : Nat) (a0 : Int) (S : ev_St) : Option ((Int) × ev_St) := ev_ck (a0 + 1) fun x1 => ev_if ((0 : Int) ≤ x1 ∧ x1 < (ev_aln 283 : Int)) (ev_b (S.1 283 (Int.toNat x1)) fun x2 => ev_b (ev_ishr x2 2) fun x3 => ev_ck (a0 + 3) fun x4 => ev_if ((0 : Int) ≤ x4 ∧ x4 < (ev_aln 283 : Int)) (ev_b (S.1 283 (Int.toNat x4)) fun x5 => ev_b (S.2.2.1 281 0) fun r6 => ev_if (r6 ≠ 0) (ev_bd (jm_59 Q ((r6 - 1)) x3 S) fun x9 s8 => ev_jn (fun (x10 : Int) (x11 : Int) (x12 : Int) (s18 : ev_St) => ev_jn (fun  (s24 : ev_St) => ev_bd (jm_126 Q x11 s24) fun x26 s25 => if x26 ≠ 0 then (ev_ck (x11 + 2) fun x28 => ev_if ((0 : Int) ≤ x28 ∧ x28 < (ev_aln 282 : Int)) (ev_b (s25.1 282 (Int.toNat x28)) fun x29 => ev_if ((0 : Int) ≤ x11 ∧ x11 < (ev_aln 282 : Int)) (ev_b (s25.1 282 (Int.toNat x11)) fun x30 => ev_bd (jm_132 Q a0 x29 x30 s25) fun _ s31 => ev_b (s31.2.2.1 281 0) fun r32 => ev_if (r32 ≠ 0) (ev_if ((0 : Int) ≤ x10 ∧ x10 < (ev_aln (((r32 - 1) + 7)) : Int)) (ev_b (s31.1 (((r32 - 1) + 7)) (Int.toNat x10)) fun x34 => ev_b (ev_pI s31 281 2 x34) fun s35 => some (1, s35)))))) else (some (0, s25))) fun K60 => if x12 = 21 then (K60  s18) else (if x12 ≠ 23 then (some (0, s18)) else (K60  s18))) fun K44 => if x9 = 0 then (K44 x3 x5 ((-1)) s8) else (ev_b (s8.2.2.1 281 0) fun r39 => ev_if (r39 ≠ 0) (ev_if ((0 : Int) ≤ x3 ∧ x3 < (ev_aln (((r39 - 1) + 1)) : Int)) (ev_b (s8.1 (((r39 - 1) + 1)) (Int.toNat x3)) fun x41 => K44 x3 x5 x41 s8))))))
theorem jt_134 (d : Nat) (hd : 2 ≤ d) (Q : Nat) (a0 : Int) (ha0 : ev_rng a0) (S : ev_St) (x : Int) (S' : ev_St) (hJ : jm_134 Q a0 S = some (x, S')) : ev_Ref d 134 [.ref 281, .int (Int32.ofInt a0)] S (ev_eI x) S' (ev_bl x) := by
  obtain ⟨d, rfl⟩ : ∃ e, d = e + 1 := ⟨d - 1, by omega⟩
  refine ev_ref_of (P := ev_bl) (lv := [(0, .ref 281), (1, .int (Int32.ofInt a0))]) (by decide +kernel) (by (try simp only [ev_sum, ev_nv_cat]); first | done | rfl) (by (try simp only [lv_args, ev_nv_cat]); first | done | rfl) ?_ x S' hJ
  unfold jm_134
  refine ev_r_aload_n (pc := 0) (k := 0) (v := .ref 281) trivial (by decide +kernel) (by rfl) ?_
  refine ev_r_getC (pc := 1) (y := 18) (ci := 8) (f := 8) (fin := 1) (k' := 283) (by decide +kernel) (by decide +kernel) (by exact ev_ob_281) rfl rfl ?_
  refine ev_r_iload_n (pc := 4) (k := 1) (v := Int32.ofInt a0) (by decide +kernel) (by rfl) ?_
  refine ev_r_iconst (pc := 5) (k := 1) (by decide +kernel) ?_
  refine ev_r_iadd (pc := 6) (by decide +kernel) ?_
  intro x1 hx1
  refine ev_r_iald (pc := 7) hx1 (by decide +kernel) (by exact ev_ab_283) ?_
  intro x2 hx2
  refine ev_r_iconst (pc := 8) (k := 2) (by decide +kernel) ?_
  refine ev_r_ishr (pc := 9) (by decide +kernel) ?_
  intro x3 hx3
  refine ev_r_istore_n (pc := 10) (k := 2) (by decide +kernel) (by decide +kernel) rfl ?_
  refine ev_r_aload_n (pc := 11) (k := 0) (v := .ref 281) trivial (by decide +kernel) (by exact (ev_l1 (by rfl) (by decide) (by decide))) ?_
  refine ev_r_getC (pc := 12) (y := 18) (ci := 8) (f := 8) (fin := 1) (k' := 283) (by decide +kernel) (by decide +kernel) (by exact ev_ob_281) rfl rfl ?_
  refine ev_r_iload_n (pc := 15) (k := 1) (v := Int32.ofInt a0) (by decide +kernel) (by exact (ev_lk_st1 (by rfl) (by decide) rfl)) ?_
  refine ev_r_iconst (pc := 16) (k := 3) (by decide +kernel) ?_
  refine ev_r_iadd (pc := 17) (by decide +kernel) ?_
  intro x4 hx4
  refine ev_r_iald (pc := 18) hx4 (by decide +kernel) (by exact ev_ab_283) ?_
  intro x5 hx5
  refine ev_r_istore_n (pc := 19) (k := 3) (by decide +kernel) (by decide +kernel) rfl ?_
  refine ev_r_aload_n (pc := 20) (k := 0) (v := .ref 281) trivial (by decide +kernel) (by exact (ev_l1 (ev_l1 (by rfl) (by decide) (by decide)) (by decide) (by decide))) ?_
  refine ev_r_getR (pc := 21) (y := 58) (ci := 8) (f := 0) (fin := 0) (t := 5) (by decide +kernel) (by decide +kernel) (by exact ev_ob_281) rfl rfl ?_
  intro r6 hr6
  have hr6 : r6 = 0 ∨ ev_isOb (r6 - 1) 5 = true := hr6
  refine ev_r_iload_n (pc := 24) (k := 2) (v := Int32.ofInt x3) (by decide +kernel) (by exact (ev_lk_st1 ev_lk_st1_self (by decide) rfl)) ?_
  refine ev_r_chk ?_
  intro c7
  refine ev_r_dr (r := r6) (fun v => [.int (Int32.ofInt x3), v]) c7 ?_
  refine ev_r_virt (pc := 25) (y := 89) (mi := 59) (na := 1) (k := (r6 - 1)) (as := [.int (Int32.ofInt x3)]) (rest := []) (encc := ev_oI) (Q := ev_bl) (fun x S1 h => jt_59 d (by omega) Q ((r6 - 1)) x3 (hr6.resolve_left c7) hx3 S x S1 h) (by exact (hr6.resolve_left c7)) (by decide +kernel) (by decide +kernel) (by decide +kernel) (by decide +kernel) rfl (by (try simp only [ev_sum, ev_nv_cat]); first | done | rfl) ?_
  intro x9 s8 hx9
  replace hx9 := ev_bl_rng hx9
  show ev_w _ _ _ _ _ [.int (Int32.ofInt x9)] _ _ _ _
  refine ev_r_jn (Q := fun K => ∀ (x10 : Int) (hx10 : ev_rng x10), ∀ (x11 : Int) (hx11 : ev_rng x11), ∀ (x12 : Int) (hx12 : ev_rng x12), ∀ (s18 : ev_St) (w13 : List (Nat × Value)), ev_lk w13 0 = some (.ref 281) → ev_lk w13 1 = some (.int (Int32.ofInt a0)) → ev_lk w13 2 = some (.int (Int32.ofInt x10)) → ev_lk w13 3 = some (.int (Int32.ofInt x11)) → ev_w none (ev_Mof 134) d 44 w13 [.int (Int32.ofInt x12)] s18 (K x10 x11 x12 s18) ev_eI ev_bl) ?_ ?_
  · intro x10 hx10 x11 hx11 x12 hx12 s18 w13 e14 e15 e16 e17
    refine ev_r_istore (pc := 44) (k := 4) (by decide +kernel) (by decide +kernel) rfl ?_
    refine ev_r_iload (pc := 46) (k := 4) (v := Int32.ofInt x12) (by decide +kernel) (by exact ev_lk_st1_self) ?_
    refine ev_r_bipush (pc := 48) (k := 21) (by decide +kernel) (by decide +kernel) ?_
    refine ev_r_jn (Q := fun K => ∀ (s24 : ev_St) (w19 : List (Nat × Value)), ev_lk w19 0 = some (.ref 281) → ev_lk w19 1 = some (.int (Int32.ofInt a0)) → ev_lk w19 2 = some (.int (Int32.ofInt x10)) → ev_lk w19 3 = some (.int (Int32.ofInt x11)) → ev_w none (ev_Mof 134) d 60 w19 [] s24 (K  s24) ev_eI ev_bl) ?_ ?_
    · intro  s24 w19 e20 e21 e22 e23
      refine ev_r_aload_n (pc := 60) (k := 0) (v := .ref 281) trivial (by decide +kernel) (by exact e20) ?_
      refine ev_r_iload_n (pc := 61) (k := 3) (v := Int32.ofInt x11) (by decide +kernel) (by exact e23) ?_
      refine ev_r_virt (pc := 62) (y := 112) (mi := 126) (na := 1) (k := 281) (as := [.int (Int32.ofInt x11)]) (rest := []) (encc := ev_oI) (Q := ev_bl) (fun x S1 h => jt_126 d (by omega) Q x11 hx11 s24 x S1 h) (by exact ev_ob_281) (by decide +kernel) (by decide +kernel) (by decide +kernel) (by decide +kernel) rfl (by (try simp only [ev_sum, ev_nv_cat]); first | done | rfl) ?_
      intro x26 s25 hx26
      replace hx26 := ev_bl_rng hx26
      show ev_w _ _ _ _ _ [.int (Int32.ofInt x26)] _ _ _ _
      refine ev_r_if (pc := 65) (q := .ne) (o := 5) (t := 70) (c := x26 ≠ 0) (by decide +kernel) (ev_k_ne hx26 ev_rng0) (by decide +kernel) ?_ ?_
      · intro c27
        refine ev_r_aload_n (pc := 70) (k := 0) (v := .ref 281) trivial (by decide +kernel) (by exact e20) ?_
        refine ev_r_iload_n (pc := 71) (k := 1) (v := Int32.ofInt a0) (by decide +kernel) (by exact e21) ?_
        refine ev_r_aload_n (pc := 72) (k := 0) (v := .ref 281) trivial (by decide +kernel) (by exact e20) ?_
        refine ev_r_getC (pc := 73) (y := 14) (ci := 8) (f := 6) (fin := 1) (k' := 282) (by decide +kernel) (by decide +kernel) (by exact ev_ob_281) rfl rfl ?_
        refine ev_r_iload_n (pc := 76) (k := 3) (v := Int32.ofInt x11) (by decide +kernel) (by exact e23) ?_
        refine ev_r_iconst (pc := 77) (k := 2) (by decide +kernel) ?_
        refine ev_r_iadd (pc := 78) (by decide +kernel) ?_
        intro x28 hx28
        refine ev_r_iald (pc := 79) hx28 (by decide +kernel) (by exact ev_ab_282) ?_
        intro x29 hx29
        refine ev_r_aload_n (pc := 80) (k := 0) (v := .ref 281) trivial (by decide +kernel) (by exact e20) ?_
        refine ev_r_getC (pc := 81) (y := 14) (ci := 8) (f := 6) (fin := 1) (k' := 282) (by decide +kernel) (by decide +kernel) (by exact ev_ob_281) rfl rfl ?_
        refine ev_r_iload_n (pc := 84) (k := 3) (v := Int32.ofInt x11) (by decide +kernel) (by exact e23) ?_
        refine ev_r_iald (pc := 85) hx11 (by decide +kernel) (by exact ev_ab_282) ?_
        intro x30 hx30
        refine ev_r_virt (pc := 86) (y := 119) (mi := 132) (na := 3) (k := 281) (as := [.int (Int32.ofInt a0), .int (Int32.ofInt x29), .int (Int32.ofInt x30)]) (rest := []) (encc := ev_oU) (Q := ev_PU) (fun x S1 h => jt_132 d (by omega) Q a0 x29 x30 ha0 hx29 hx30 s25 x S1 h) (by exact ev_ob_281) (by decide +kernel) (by decide +kernel) (by decide +kernel) (by decide +kernel) rfl (by (try simp only [ev_sum, ev_nv_cat]); first | done | rfl) ?_
        intro _ s31 _
        show ev_w _ _ _ _ _ [] _ _ _ _
        refine ev_r_aload_n (pc := 89) (k := 0) (v := .ref 281) trivial (by decide +kernel) (by exact e20) ?_
        refine ev_r_aload_n (pc := 90) (k := 0) (v := .ref 281) trivial (by decide +kernel) (by exact e20) ?_
        refine ev_r_getR (pc := 91) (y := 58) (ci := 8) (f := 0) (fin := 0) (t := 5) (by decide +kernel) (by decide +kernel) (by exact ev_ob_281) rfl rfl ?_
        intro r32 hr32
        have hr32 : r32 = 0 ∨ ev_isOb (r32 - 1) 5 = true := hr32
        refine ev_r_chk ?_
        intro c33
        refine ev_r_dr (r := r32) (fun v => [v, .ref 281]) c33 ?_
        refine ev_r_getC (pc := 94) (y := 139) (ci := 5) (f := 6) (fin := 2) (k' := ((r32 - 1) + 7)) (by decide +kernel) (by decide +kernel) (by exact (hr32.resolve_left c33)) rfl rfl ?_
        refine ev_r_iload_n (pc := 97) (k := 2) (v := Int32.ofInt x10) (by decide +kernel) (by exact e22) ?_
        refine ev_r_iald (pc := 98) hx10 (by decide +kernel) (by exact (ev_fo_5_6 (hr32.resolve_left c33))) ?_
        intro x34 hx34
        refine ev_r_putI (pc := 99) (y := 96) (ci := 8) (f := 2) hx34 (by decide +kernel) (by decide +kernel) (by exact ev_ob_281) rfl rfl ?_
        intro s35
        refine ev_r_iconst (pc := 102) (k := 1) (by decide +kernel) ?_
        exact ev_r_ireturn (pc := 103) (x := 1) (v := Int32.ofInt 1) (ty := .boolean) (by decide : ev_bl 1) (by decide +kernel) (by decide +kernel) (ev_ret_bl (by decide : ev_bl 1)) rfl
      · intro c27
        refine ev_r_iconst (pc := 68) (k := 0) (by decide +kernel) ?_
        exact ev_r_ireturn (pc := 69) (x := 0) (v := Int32.ofInt 0) (ty := .boolean) (by decide : ev_bl 0) (by decide +kernel) (by decide +kernel) (ev_ret_bl (by decide : ev_bl 0)) rfl
    · intro K60 hK60
      refine ev_r_icmp (pc := 50) (q := .eq) (o := 10) (t := 60) (c := x12 = 21) (by decide +kernel) (ev_k_eq hx12 (by decide)) (by decide +kernel) ?_ ?_
      · intro c36
        exact hK60  s18 _ (by exact (ev_l1 e14 (by decide) (by decide))) (by exact (ev_l1 e15 (by decide) (by decide))) (by exact (ev_l1 e16 (by decide) (by decide))) (by exact (ev_lk_st1 e17 (by decide) rfl))
      · intro c36
        refine ev_r_iload (pc := 53) (k := 4) (v := Int32.ofInt x12) (by decide +kernel) (by exact ev_lk_st1_self) ?_
        refine ev_r_bipush (pc := 55) (k := 23) (by decide +kernel) (by decide +kernel) ?_
        refine ev_r_icmp (pc := 57) (q := .ne) (o := 11) (t := 68) (c := x12 ≠ 23) (by decide +kernel) (ev_k_ne hx12 (by decide)) (by decide +kernel) ?_ ?_
        · intro c37
          refine ev_r_iconst (pc := 68) (k := 0) (by decide +kernel) ?_
          exact ev_r_ireturn (pc := 69) (x := 0) (v := Int32.ofInt 0) (ty := .boolean) (by decide : ev_bl 0) (by decide +kernel) (by decide +kernel) (ev_ret_bl (by decide : ev_bl 0)) rfl
        · intro c37
          exact hK60  s18 _ (by exact (ev_l1 e14 (by decide) (by decide))) (by exact (ev_l1 e15 (by decide) (by decide))) (by exact (ev_l1 e16 (by decide) (by decide))) (by exact (ev_lk_st1 e17 (by decide) rfl))
  · intro K44 hK44
    refine ev_r_if (pc := 28) (q := .eq) (o := 15) (t := 43) (c := x9 = 0) (by decide +kernel) (ev_k_eq hx9 ev_rng0) (by decide +kernel) ?_ ?_
    · intro c38
      refine ev_r_iconst (pc := 43) (k := -1) (by decide +kernel) ?_
      exact hK44 x3 hx3 x5 hx5 ((-1)) (by decide) s8 _ (by exact (ev_l1 (ev_l1 (by rfl) (by decide) (by decide)) (by decide) (by decide))) (by exact (ev_l1 (ev_lk_st1 (by rfl) (by decide) rfl) (by decide) (by decide))) (by exact (ev_lk_st1 ev_lk_st1_self (by decide) rfl)) (by exact ev_lk_st1_self)
    · intro c38
      refine ev_r_aload_n (pc := 31) (k := 0) (v := .ref 281) trivial (by decide +kernel) (by exact (ev_l1 (ev_l1 (by rfl) (by decide) (by decide)) (by decide) (by decide))) ?_
      refine ev_r_getR (pc := 32) (y := 58) (ci := 8) (f := 0) (fin := 0) (t := 5) (by decide +kernel) (by decide +kernel) (by exact ev_ob_281) rfl rfl ?_
      intro r39 hr39
      have hr39 : r39 = 0 ∨ ev_isOb (r39 - 1) 5 = true := hr39
      refine ev_r_chk ?_
      intro c40
      refine ev_r_dr (r := r39) (fun v => [v]) c40 ?_
      refine ev_r_getC (pc := 35) (y := 132) (ci := 5) (f := 0) (fin := 2) (k' := ((r39 - 1) + 1)) (by decide +kernel) (by decide +kernel) (by exact (hr39.resolve_left c40)) rfl rfl ?_
      refine ev_r_iload_n (pc := 38) (k := 2) (v := Int32.ofInt x3) (by decide +kernel) (by exact (ev_lk_st1 ev_lk_st1_self (by decide) rfl)) ?_
      refine ev_r_iald (pc := 39) hx3 (by decide +kernel) (by exact (ev_fo_5_0 (hr39.resolve_left c40))) ?_
      intro x41 hx41
      refine ev_r_goto (pc := 40) (o := 4) (t := 44) (by decide +kernel) (by decide +kernel) ?_
      exact hK44 x3 hx3 x5 hx5 x41 hx41 s8 _ (by exact (ev_l1 (ev_l1 (by rfl) (by decide) (by decide)) (by decide) (by decide))) (by exact (ev_l1 (ev_lk_st1 (by rfl) (by decide) rfl) (by decide) (by decide))) (by exact (ev_lk_st1 ev_lk_st1_self (by decide) rfl)) (by exact ev_lk_st1_self)
def jb_131_2 (Q : Nat)   (K2 : Int → ev_St → Option ((Int) × ev_St)) (x1 : Int) (s5 : ev_St) : Option ((Int) × ev_St) := if 100000000 ≤ x1 then (some (2, s5)) else (ev_b (s5.1 281 9) fun x7 => if x7 ≤ 0 then (some (2, s5)) else (ev_b (s5.1 281 9) fun x9 => ev_ck (x9 - 1) fun x10 => ev_b (ev_pI s5 281 9 x10) fun s11 => ev_b (s11.1 281 9) fun x12 => ev_ck (6 * x12) fun x13 => if x13 < 0 then (some (2, s11)) else (ev_ck (x13 + 6) fun x15 => ev_b (ev_aln 283 : Int) fun x16 => if x15 ≤ x16 then (ev_if ((0 : Int) ≤ x13 ∧ x13 < (ev_aln 283 : Int)) (ev_b (s11.1 283 (Int.toNat x13)) fun x18 => if x18 ≠ 0 then (ev_jn (fun (x20 : Int) (s26 : ev_St) => ev_jn (fun  (s29 : ev_St) => ev_b (s29.1 281 10) fun x30 => if x30 = 0 then (some (0, s29)) else (some (2, s29))) fun K173 => ev_jn (fun  (s36 : ev_St) => ev_bd (jm_134 Q x20 s36) fun x38 s37 => if x38 = 0 then (ev_ck (x1 + 1) fun x40 => K2 x40 s37) else (K173  s37)) fun K165 => if x18 ≠ 1 then (K165  s26) else (ev_bd (jm_133 Q x20 s26) fun x43 s42 => if x43 ≠ 0 then (K173  s42) else (K165  s42))) fun K152 => if x18 = 1 then (K152 x13 s11) else (ev_b (s11.1 281 9) fun x46 => ev_bd (jm_135 Q x46 s11) fun x48 s47 => ev_b (ev_pI s47 281 9 x48) fun s49 => ev_b (s49.1 281 9) fun x50 => if 0 ≤ x50 then (ev_b (s49.1 281 9) fun x52 => ev_ck (6 * x52) fun x53 => K152 x53 s49) else (ev_ck (x13 + 2) fun x54 => ev_if ((0 : Int) ≤ x54 ∧ x54 < (ev_aln 283 : Int)) (ev_b (s49.1 283 (Int.toNat x54)) fun x55 => ev_b (ev_pI s49 281 13 x55) fun s56 => if x18 ≠ 2 then (some (4, s56)) else (some (3, s56)))))) else (ev_ck (x13 + 1) fun x58 => ev_if ((0 : Int) ≤ x58 ∧ x58 < (ev_aln 283 : Int)) (ev_b (s11.1 283 (Int.toNat x58)) fun x59 => ev_b (ev_pI s11 281 2 x59) fun s60 => ev_ck (x13 + 2) fun x61 => ev_if ((0 : Int) ≤ x61 ∧ x61 < (ev_aln 283 : Int)) (ev_b (s60.1 283 (Int.toNat x61)) fun x62 => ev_ck (x13 + 3) fun x63 => ev_if ((0 : Int) ≤ x63 ∧ x63 < (ev_aln 283 : Int)) (ev_b (s60.1 283 (Int.toNat x63)) fun x64 => ev_bd (jm_132 Q x13 x62 x64 s60) fun _ s65 => some (0, s65))))))) else (some (2, s11)))))
def jl_131_2 (Q : Nat)   : Nat → Int → ev_St → Option ((Int) × ev_St)
  | 0 => fun _ _ => none
  | q + 1 => jb_131_2 Q   (jl_131_2 Q   q)
theorem jbt_131_2 (d : Nat) (hd : 3 ≤ d + 1) (Q : Nat)     (K2 : Int → ev_St → Option ((Int) × ev_St)) (hK2 : ∀ (x1 : Int) (hx1 : ev_rng x1), ∀ (s5 : ev_St) (w2 : List (Nat × Value)), ev_lk w2 0 = some (.ref 281) → ev_lk w2 1 = some (.int (Int32.ofInt x1)) → ev_w none (ev_Mof 131) d 2 w2 [] s5 (K2 x1 s5) ev_eI ev_rng) : ∀ (x1 : Int) (hx1 : ev_rng x1), ∀ (s5 : ev_St) (w2 : List (Nat × Value)), ev_lk w2 0 = some (.ref 281) → ev_lk w2 1 = some (.int (Int32.ofInt x1)) → ev_w none (ev_Mof 131) d 2 w2 [] s5 (jb_131_2 Q   K2 x1 s5) ev_eI ev_rng := by
  intro x1 hx1 s5 w2 e3 e4
  unfold jb_131_2
  refine ev_r_iload_n (pc := 2) (k := 1) (v := Int32.ofInt x1) (by decide +kernel) (by exact e4) ?_
  refine ev_r_ldc (pc := 3) (y := 99) (k := 100000000) (by decide +kernel) (by decide +kernel) ?_
  refine ev_r_icmp (pc := 5) (q := .ge) (o := 187) (t := 192) (c := 100000000 ≤ x1) (by decide +kernel) (ev_k_ge hx1 (by decide)) (by decide +kernel) ?_ ?_
  · intro c6
    refine ev_r_iconst (pc := 192) (k := 2) (by decide +kernel) ?_
    exact ev_r_ireturn (pc := 193) (x := 2) (v := Int32.ofInt 2) (ty := .int) (by decide) (by decide +kernel) (by decide +kernel) rfl rfl
  · intro c6
    refine ev_r_aload_n (pc := 8) (k := 0) (v := .ref 281) trivial (by decide +kernel) (by exact e3) ?_
    refine ev_r_getI (pc := 9) (y := 82) (ci := 8) (f := 9) (fin := 0) (by decide +kernel) (by decide +kernel) (by exact ev_ob_281) rfl ?_
    intro x7 hx7
    refine ev_r_if (pc := 12) (q := .le) (o := 180) (t := 192) (c := x7 ≤ 0) (by decide +kernel) (ev_k_le hx7 ev_rng0) (by decide +kernel) ?_ ?_
    · intro c8
      refine ev_r_iconst (pc := 192) (k := 2) (by decide +kernel) ?_
      exact ev_r_ireturn (pc := 193) (x := 2) (v := Int32.ofInt 2) (ty := .int) (by decide) (by decide +kernel) (by decide +kernel) rfl rfl
    · intro c8
      refine ev_r_aload_n (pc := 15) (k := 0) (v := .ref 281) trivial (by decide +kernel) (by exact e3) ?_
      refine ev_r_dup (pc := 16) rfl (by decide +kernel) ?_
      refine ev_r_getI (pc := 17) (y := 82) (ci := 8) (f := 9) (fin := 0) (by decide +kernel) (by decide +kernel) (by exact ev_ob_281) rfl ?_
      intro x9 hx9
      refine ev_r_iconst (pc := 20) (k := 1) (by decide +kernel) ?_
      refine ev_r_isub (pc := 21) (by decide +kernel) ?_
      intro x10 hx10
      refine ev_r_putI (pc := 22) (y := 82) (ci := 8) (f := 9) hx10 (by decide +kernel) (by decide +kernel) (by exact ev_ob_281) rfl rfl ?_
      intro s11
      refine ev_r_bipush (pc := 25) (k := 6) (by decide +kernel) (by decide +kernel) ?_
      refine ev_r_aload_n (pc := 27) (k := 0) (v := .ref 281) trivial (by decide +kernel) (by exact e3) ?_
      refine ev_r_getI (pc := 28) (y := 82) (ci := 8) (f := 9) (fin := 0) (by decide +kernel) (by decide +kernel) (by exact ev_ob_281) rfl ?_
      intro x12 hx12
      refine ev_r_imul (pc := 31) (by decide +kernel) ?_
      intro x13 hx13
      refine ev_r_istore_n (pc := 32) (k := 2) (by decide +kernel) (by decide +kernel) rfl ?_
      refine ev_r_iload_n (pc := 33) (k := 2) (v := Int32.ofInt x13) (by decide +kernel) (by exact ev_lk_st1_self) ?_
      refine ev_r_if (pc := 34) (q := .lt) (o := 15) (t := 49) (c := x13 < 0) (by decide +kernel) (ev_k_lt hx13 ev_rng0) (by decide +kernel) ?_ ?_
      · intro c14
        refine ev_r_iconst (pc := 49) (k := 2) (by decide +kernel) ?_
        exact ev_r_ireturn (pc := 50) (x := 2) (v := Int32.ofInt 2) (ty := .int) (by decide) (by decide +kernel) (by decide +kernel) rfl rfl
      · intro c14
        refine ev_r_iload_n (pc := 37) (k := 2) (v := Int32.ofInt x13) (by decide +kernel) (by exact ev_lk_st1_self) ?_
        refine ev_r_bipush (pc := 38) (k := 6) (by decide +kernel) (by decide +kernel) ?_
        refine ev_r_iadd (pc := 40) (by decide +kernel) ?_
        intro x15 hx15
        refine ev_r_aload_n (pc := 41) (k := 0) (v := .ref 281) trivial (by decide +kernel) (by exact (ev_l1 e3 (by decide) (by decide))) ?_
        refine ev_r_getC (pc := 42) (y := 18) (ci := 8) (f := 8) (fin := 1) (k' := 283) (by decide +kernel) (by decide +kernel) (by exact ev_ob_281) rfl rfl ?_
        refine ev_r_alen (pc := 45) (kd := 1) (ty := .int) (Or.inl rfl) (by decide +kernel) (by exact ev_ab_283) ?_
        intro x16 hx16
        refine ev_r_icmp (pc := 46) (q := .le) (o := 5) (t := 51) (c := x15 ≤ x16) (by decide +kernel) (ev_k_le hx15 hx16) (by decide +kernel) ?_ ?_
        · intro c17
          refine ev_r_aload_n (pc := 51) (k := 0) (v := .ref 281) trivial (by decide +kernel) (by exact (ev_l1 e3 (by decide) (by decide))) ?_
          refine ev_r_getC (pc := 52) (y := 18) (ci := 8) (f := 8) (fin := 1) (k' := 283) (by decide +kernel) (by decide +kernel) (by exact ev_ob_281) rfl rfl ?_
          refine ev_r_iload_n (pc := 55) (k := 2) (v := Int32.ofInt x13) (by decide +kernel) (by exact ev_lk_st1_self) ?_
          refine ev_r_iald (pc := 56) hx13 (by decide +kernel) (by exact ev_ab_283) ?_
          intro x18 hx18
          refine ev_r_istore_n (pc := 57) (k := 3) (by decide +kernel) (by decide +kernel) rfl ?_
          refine ev_r_iload_n (pc := 58) (k := 3) (v := Int32.ofInt x18) (by decide +kernel) (by exact ev_lk_st1_self) ?_
          refine ev_r_if (pc := 59) (q := .ne) (o := 38) (t := 97) (c := x18 ≠ 0) (by decide +kernel) (ev_k_ne hx18 ev_rng0) (by decide +kernel) ?_ ?_
          · intro c19
            refine ev_r_iload_n (pc := 97) (k := 3) (v := Int32.ofInt x18) (by decide +kernel) (by exact ev_lk_st1_self) ?_
            refine ev_r_iconst (pc := 98) (k := 1) (by decide +kernel) ?_
            refine ev_r_jn (Q := fun K => ∀ (x20 : Int) (hx20 : ev_rng x20), ∀ (s26 : ev_St) (w21 : List (Nat × Value)), ev_lk w21 0 = some (.ref 281) → ev_lk w21 1 = some (.int (Int32.ofInt x1)) → ev_lk w21 2 = some (.int (Int32.ofInt x20)) → ev_lk w21 3 = some (.int (Int32.ofInt x18)) → ev_w none (ev_Mof 131) d 152 w21 [] s26 (K x20 s26) ev_eI ev_rng) ?_ ?_
            · intro x20 hx20 s26 w21 e22 e23 e24 e25
              refine ev_r_iload_n (pc := 152) (k := 3) (v := Int32.ofInt x18) (by decide +kernel) (by exact e25) ?_
              refine ev_r_iconst (pc := 153) (k := 1) (by decide +kernel) ?_
              refine ev_r_jn (Q := fun K => ∀ (s29 : ev_St) (w27 : List (Nat × Value)), ev_lk w27 0 = some (.ref 281) → ev_w none (ev_Mof 131) d 173 w27 [] s29 (K  s29) ev_eI ev_rng) ?_ ?_
              · intro  s29 w27 e28
                refine ev_r_aload_n (pc := 173) (k := 0) (v := .ref 281) trivial (by decide +kernel) (by exact e28) ?_
                refine ev_r_getI (pc := 174) (y := 39) (ci := 8) (f := 10) (fin := 0) (by decide +kernel) (by decide +kernel) (by exact ev_ob_281) rfl ?_
                intro x30 hx30
                refine ev_r_if (pc := 177) (q := .eq) (o := 7) (t := 184) (c := x30 = 0) (by decide +kernel) (ev_k_eq hx30 ev_rng0) (by decide +kernel) ?_ ?_
                · intro c31
                  refine ev_r_iconst (pc := 184) (k := 0) (by decide +kernel) ?_
                  exact ev_r_ireturn (pc := 185) (x := 0) (v := Int32.ofInt 0) (ty := .int) (by decide) (by decide +kernel) (by decide +kernel) rfl rfl
                · intro c31
                  refine ev_r_iconst (pc := 180) (k := 2) (by decide +kernel) ?_
                  refine ev_r_goto (pc := 181) (o := 4) (t := 185) (by decide +kernel) (by decide +kernel) ?_
                  exact ev_r_ireturn (pc := 185) (x := 2) (v := Int32.ofInt 2) (ty := .int) (by decide) (by decide +kernel) (by decide +kernel) rfl rfl
              · intro K173 hK173
                refine ev_r_jn (Q := fun K => ∀ (s36 : ev_St) (w32 : List (Nat × Value)), ev_lk w32 0 = some (.ref 281) → ev_lk w32 1 = some (.int (Int32.ofInt x1)) → ev_lk w32 2 = some (.int (Int32.ofInt x20)) → ev_w none (ev_Mof 131) d 165 w32 [] s36 (K  s36) ev_eI ev_rng) ?_ ?_
                · intro  s36 w32 e33 e34 e35
                  refine ev_r_aload_n (pc := 165) (k := 0) (v := .ref 281) trivial (by decide +kernel) (by exact e33) ?_
                  refine ev_r_iload_n (pc := 166) (k := 2) (v := Int32.ofInt x20) (by decide +kernel) (by exact e35) ?_
                  refine ev_r_virt (pc := 167) (y := 129) (mi := 134) (na := 1) (k := 281) (as := [.int (Int32.ofInt x20)]) (rest := []) (encc := ev_oI) (Q := ev_bl) (fun x S1 h => jt_134 d (by omega) Q x20 hx20 s36 x S1 h) (by exact ev_ob_281) (by decide +kernel) (by decide +kernel) (by decide +kernel) (by decide +kernel) rfl (by (try simp only [ev_sum, ev_nv_cat]); first | done | rfl) ?_
                  intro x38 s37 hx38
                  replace hx38 := ev_bl_rng hx38
                  show ev_w _ _ _ _ _ [.int (Int32.ofInt x38)] _ _ _ _
                  refine ev_r_if (pc := 170) (q := .eq) (o := 16) (t := 186) (c := x38 = 0) (by decide +kernel) (ev_k_eq hx38 ev_rng0) (by decide +kernel) ?_ ?_
                  · intro c39
                    refine ev_r_iinc (pc := 186) (k := 1) (c := 1) (x := x1) (by decide +kernel) (by decide +kernel) (by exact e34) (fun _ => rfl) ?_
                    intro x40 hx40
                    refine ev_r_goto (pc := 189) (o := (-187)) (t := 2) (by decide +kernel) (by decide +kernel) ?_
                    exact hK2 x40 hx40 s37 _ (by exact (ev_lk_st1 e33 (by decide) rfl)) (by exact ev_lk_st1_self)
                  · intro c39
                    exact hK173  s37 _ (by exact e33)
                · intro K165 hK165
                  refine ev_r_icmp (pc := 154) (q := .ne) (o := 11) (t := 165) (c := x18 ≠ 1) (by decide +kernel) (ev_k_ne hx18 (by decide)) (by decide +kernel) ?_ ?_
                  · intro c41
                    exact hK165  s26 _ (by exact e22) (by exact e23) (by exact e24)
                  · intro c41
                    refine ev_r_aload_n (pc := 157) (k := 0) (v := .ref 281) trivial (by decide +kernel) (by exact e22) ?_
                    refine ev_r_iload_n (pc := 158) (k := 2) (v := Int32.ofInt x20) (by decide +kernel) (by exact e24) ?_
                    refine ev_r_virt (pc := 159) (y := 126) (mi := 133) (na := 1) (k := 281) (as := [.int (Int32.ofInt x20)]) (rest := []) (encc := ev_oI) (Q := ev_bl) (fun x S1 h => jt_133 d (by omega) Q x20 hx20 s26 x S1 h) (by exact ev_ob_281) (by decide +kernel) (by decide +kernel) (by decide +kernel) (by decide +kernel) rfl (by (try simp only [ev_sum, ev_nv_cat]); first | done | rfl) ?_
                    intro x43 s42 hx43
                    replace hx43 := ev_bl_rng hx43
                    show ev_w _ _ _ _ _ [.int (Int32.ofInt x43)] _ _ _ _
                    refine ev_r_if (pc := 162) (q := .ne) (o := 11) (t := 173) (c := x43 ≠ 0) (by decide +kernel) (ev_k_ne hx43 ev_rng0) (by decide +kernel) ?_ ?_
                    · intro c44
                      exact hK173  s42 _ (by exact e22)
                    · intro c44
                      exact hK165  s42 _ (by exact e22) (by exact e23) (by exact e24)
            · intro K152 hK152
              refine ev_r_icmp (pc := 99) (q := .eq) (o := 53) (t := 152) (c := x18 = 1) (by decide +kernel) (ev_k_eq hx18 (by decide)) (by decide +kernel) ?_ ?_
              · intro c45
                exact hK152 x13 hx13 s11 _ (by exact (ev_l1 (ev_l1 e3 (by decide) (by decide)) (by decide) (by decide))) (by exact (ev_l1 (ev_lk_st1 e4 (by decide) rfl) (by decide) (by decide))) (by exact (ev_lk_st1 ev_lk_st1_self (by decide) rfl)) (by exact ev_lk_st1_self)
              · intro c45
                refine ev_r_aload_n (pc := 102) (k := 0) (v := .ref 281) trivial (by decide +kernel) (by exact (ev_l1 (ev_l1 e3 (by decide) (by decide)) (by decide) (by decide))) ?_
                refine ev_r_aload_n (pc := 103) (k := 0) (v := .ref 281) trivial (by decide +kernel) (by exact (ev_l1 (ev_l1 e3 (by decide) (by decide)) (by decide) (by decide))) ?_
                refine ev_r_aload_n (pc := 104) (k := 0) (v := .ref 281) trivial (by decide +kernel) (by exact (ev_l1 (ev_l1 e3 (by decide) (by decide)) (by decide) (by decide))) ?_
                refine ev_r_getI (pc := 105) (y := 82) (ci := 8) (f := 9) (fin := 0) (by decide +kernel) (by decide +kernel) (by exact ev_ob_281) rfl ?_
                intro x46 hx46
                refine ev_r_virt (pc := 108) (y := 123) (mi := 135) (na := 1) (k := 281) (as := [.int (Int32.ofInt x46)]) (rest := [.ref 281]) (encc := ev_oI) (Q := ev_rng) (fun x S1 h => jt_135 d (by omega) Q x46 hx46 s11 x S1 h) (by exact ev_ob_281) (by decide +kernel) (by decide +kernel) (by decide +kernel) (by decide +kernel) rfl (by (try simp only [ev_sum, ev_nv_cat]); first | done | rfl) ?_
                intro x48 s47 hx48
                show ev_w _ _ _ _ _ [.int (Int32.ofInt x48), .ref 281] _ _ _ _
                refine ev_r_putI (pc := 111) (y := 82) (ci := 8) (f := 9) hx48 (by decide +kernel) (by decide +kernel) (by exact ev_ob_281) rfl rfl ?_
                intro s49
                refine ev_r_aload_n (pc := 114) (k := 0) (v := .ref 281) trivial (by decide +kernel) (by exact (ev_l1 (ev_l1 e3 (by decide) (by decide)) (by decide) (by decide))) ?_
                refine ev_r_getI (pc := 115) (y := 82) (ci := 8) (f := 9) (fin := 0) (by decide +kernel) (by decide +kernel) (by exact ev_ob_281) rfl ?_
                intro x50 hx50
                refine ev_r_if (pc := 118) (q := .ge) (o := 26) (t := 144) (c := 0 ≤ x50) (by decide +kernel) (ev_k_ge hx50 ev_rng0) (by decide +kernel) ?_ ?_
                · intro c51
                  refine ev_r_bipush (pc := 144) (k := 6) (by decide +kernel) (by decide +kernel) ?_
                  refine ev_r_aload_n (pc := 146) (k := 0) (v := .ref 281) trivial (by decide +kernel) (by exact (ev_l1 (ev_l1 e3 (by decide) (by decide)) (by decide) (by decide))) ?_
                  refine ev_r_getI (pc := 147) (y := 82) (ci := 8) (f := 9) (fin := 0) (by decide +kernel) (by decide +kernel) (by exact ev_ob_281) rfl ?_
                  intro x52 hx52
                  refine ev_r_imul (pc := 150) (by decide +kernel) ?_
                  intro x53 hx53
                  refine ev_r_istore_n (pc := 151) (k := 2) (by decide +kernel) (by decide +kernel) rfl ?_
                  exact hK152 x53 hx53 s49 _ (by exact (ev_l1 (ev_l1 (ev_l1 e3 (by decide) (by decide)) (by decide) (by decide)) (by decide) (by decide))) (by exact (ev_lk_st1 (ev_l1 (ev_lk_st1 e4 (by decide) rfl) (by decide) (by decide)) (by decide) rfl)) (by exact ev_lk_st1_self) (by exact (ev_l1 ev_lk_st1_self (by decide) (by decide)))
                · intro c51
                  refine ev_r_aload_n (pc := 121) (k := 0) (v := .ref 281) trivial (by decide +kernel) (by exact (ev_l1 (ev_l1 e3 (by decide) (by decide)) (by decide) (by decide))) ?_
                  refine ev_r_aload_n (pc := 122) (k := 0) (v := .ref 281) trivial (by decide +kernel) (by exact (ev_l1 (ev_l1 e3 (by decide) (by decide)) (by decide) (by decide))) ?_
                  refine ev_r_getC (pc := 123) (y := 18) (ci := 8) (f := 8) (fin := 1) (k' := 283) (by decide +kernel) (by decide +kernel) (by exact ev_ob_281) rfl rfl ?_
                  refine ev_r_iload_n (pc := 126) (k := 2) (v := Int32.ofInt x13) (by decide +kernel) (by exact (ev_lk_st1 ev_lk_st1_self (by decide) rfl)) ?_
                  refine ev_r_iconst (pc := 127) (k := 2) (by decide +kernel) ?_
                  refine ev_r_iadd (pc := 128) (by decide +kernel) ?_
                  intro x54 hx54
                  refine ev_r_iald (pc := 129) hx54 (by decide +kernel) (by exact ev_ab_283) ?_
                  intro x55 hx55
                  refine ev_r_putI (pc := 130) (y := 49) (ci := 8) (f := 13) hx55 (by decide +kernel) (by decide +kernel) (by exact ev_ob_281) rfl rfl ?_
                  intro s56
                  refine ev_r_iload_n (pc := 133) (k := 3) (v := Int32.ofInt x18) (by decide +kernel) (by exact ev_lk_st1_self) ?_
                  refine ev_r_iconst (pc := 134) (k := 2) (by decide +kernel) ?_
                  refine ev_r_icmp (pc := 135) (q := .ne) (o := 7) (t := 142) (c := x18 ≠ 2) (by decide +kernel) (ev_k_ne hx18 (by decide)) (by decide +kernel) ?_ ?_
                  · intro c57
                    refine ev_r_iconst (pc := 142) (k := 4) (by decide +kernel) ?_
                    exact ev_r_ireturn (pc := 143) (x := 4) (v := Int32.ofInt 4) (ty := .int) (by decide) (by decide +kernel) (by decide +kernel) rfl rfl
                  · intro c57
                    refine ev_r_iconst (pc := 138) (k := 3) (by decide +kernel) ?_
                    refine ev_r_goto (pc := 139) (o := 4) (t := 143) (by decide +kernel) (by decide +kernel) ?_
                    exact ev_r_ireturn (pc := 143) (x := 3) (v := Int32.ofInt 3) (ty := .int) (by decide) (by decide +kernel) (by decide +kernel) rfl rfl
          · intro c19
            refine ev_r_aload_n (pc := 62) (k := 0) (v := .ref 281) trivial (by decide +kernel) (by exact (ev_l1 (ev_l1 e3 (by decide) (by decide)) (by decide) (by decide))) ?_
            refine ev_r_aload_n (pc := 63) (k := 0) (v := .ref 281) trivial (by decide +kernel) (by exact (ev_l1 (ev_l1 e3 (by decide) (by decide)) (by decide) (by decide))) ?_
            refine ev_r_getC (pc := 64) (y := 18) (ci := 8) (f := 8) (fin := 1) (k' := 283) (by decide +kernel) (by decide +kernel) (by exact ev_ob_281) rfl rfl ?_
            refine ev_r_iload_n (pc := 67) (k := 2) (v := Int32.ofInt x13) (by decide +kernel) (by exact (ev_lk_st1 ev_lk_st1_self (by decide) rfl)) ?_
            refine ev_r_iconst (pc := 68) (k := 1) (by decide +kernel) ?_
            refine ev_r_iadd (pc := 69) (by decide +kernel) ?_
            intro x58 hx58
            refine ev_r_iald (pc := 70) hx58 (by decide +kernel) (by exact ev_ab_283) ?_
            intro x59 hx59
            refine ev_r_putI (pc := 71) (y := 96) (ci := 8) (f := 2) hx59 (by decide +kernel) (by decide +kernel) (by exact ev_ob_281) rfl rfl ?_
            intro s60
            refine ev_r_aload_n (pc := 74) (k := 0) (v := .ref 281) trivial (by decide +kernel) (by exact (ev_l1 (ev_l1 e3 (by decide) (by decide)) (by decide) (by decide))) ?_
            refine ev_r_iload_n (pc := 75) (k := 2) (v := Int32.ofInt x13) (by decide +kernel) (by exact (ev_lk_st1 ev_lk_st1_self (by decide) rfl)) ?_
            refine ev_r_aload_n (pc := 76) (k := 0) (v := .ref 281) trivial (by decide +kernel) (by exact (ev_l1 (ev_l1 e3 (by decide) (by decide)) (by decide) (by decide))) ?_
            refine ev_r_getC (pc := 77) (y := 18) (ci := 8) (f := 8) (fin := 1) (k' := 283) (by decide +kernel) (by decide +kernel) (by exact ev_ob_281) rfl rfl ?_
            refine ev_r_iload_n (pc := 80) (k := 2) (v := Int32.ofInt x13) (by decide +kernel) (by exact (ev_lk_st1 ev_lk_st1_self (by decide) rfl)) ?_
            refine ev_r_iconst (pc := 81) (k := 2) (by decide +kernel) ?_
            refine ev_r_iadd (pc := 82) (by decide +kernel) ?_
            intro x61 hx61
            refine ev_r_iald (pc := 83) hx61 (by decide +kernel) (by exact ev_ab_283) ?_
            intro x62 hx62
            refine ev_r_aload_n (pc := 84) (k := 0) (v := .ref 281) trivial (by decide +kernel) (by exact (ev_l1 (ev_l1 e3 (by decide) (by decide)) (by decide) (by decide))) ?_
            refine ev_r_getC (pc := 85) (y := 18) (ci := 8) (f := 8) (fin := 1) (k' := 283) (by decide +kernel) (by decide +kernel) (by exact ev_ob_281) rfl rfl ?_
            refine ev_r_iload_n (pc := 88) (k := 2) (v := Int32.ofInt x13) (by decide +kernel) (by exact (ev_lk_st1 ev_lk_st1_self (by decide) rfl)) ?_
            refine ev_r_iconst (pc := 89) (k := 3) (by decide +kernel) ?_
            refine ev_r_iadd (pc := 90) (by decide +kernel) ?_
            intro x63 hx63
            refine ev_r_iald (pc := 91) hx63 (by decide +kernel) (by exact ev_ab_283) ?_
            intro x64 hx64
            refine ev_r_virt (pc := 92) (y := 119) (mi := 132) (na := 3) (k := 281) (as := [.int (Int32.ofInt x13), .int (Int32.ofInt x62), .int (Int32.ofInt x64)]) (rest := []) (encc := ev_oU) (Q := ev_PU) (fun x S1 h => jt_132 d (by omega) Q x13 x62 x64 hx13 hx62 hx64 s60 x S1 h) (by exact ev_ob_281) (by decide +kernel) (by decide +kernel) (by decide +kernel) (by decide +kernel) rfl (by (try simp only [ev_sum, ev_nv_cat]); first | done | rfl) ?_
            intro _ s65 _
            show ev_w _ _ _ _ _ [] _ _ _ _
            refine ev_r_iconst (pc := 95) (k := 0) (by decide +kernel) ?_
            exact ev_r_ireturn (pc := 96) (x := 0) (v := Int32.ofInt 0) (ty := .int) (by decide) (by decide +kernel) (by decide +kernel) rfl rfl
        · intro c17
          refine ev_r_iconst (pc := 49) (k := 2) (by decide +kernel) ?_
          exact ev_r_ireturn (pc := 50) (x := 2) (v := Int32.ofInt 2) (ty := .int) (by decide) (by decide +kernel) (by decide +kernel) rfl rfl
theorem jlt_131_2 (d : Nat) (hd : 3 ≤ d + 1) (Q : Nat)     : ∀ q : Nat, ∀ (x1 : Int) (hx1 : ev_rng x1), ∀ (s5 : ev_St) (w2 : List (Nat × Value)), ev_lk w2 0 = some (.ref 281) → ev_lk w2 1 = some (.int (Int32.ofInt x1)) → ev_w none (ev_Mof 131) d 2 w2 [] s5 (jl_131_2 Q   q x1 s5) ev_eI ev_rng := by
  intro q
  induction q with
  | zero =>
    intro x1 hx1 s5 w2 e3 e4
    exact ev_w_none
  | succ q ih => exact jbt_131_2 d hd Q     _ ih
/-- MendBench$Search.goBack()I -/
def jm_131 (Q : Nat)  (S : ev_St) : Option ((Int) × ev_St) := jl_131_2 Q   Q 0 S
theorem jt_131 (d : Nat) (hd : 3 ≤ d) (Q : Nat)   (S : ev_St) (x : Int) (S' : ev_St) (hJ : jm_131 Q  S = some (x, S')) : ev_Ref d 131 [.ref 281] S (ev_eI x) S' (ev_rng x) := by
  obtain ⟨d, rfl⟩ : ∃ e, d = e + 1 := ⟨d - 1, by omega⟩
  refine ev_ref_of (P := ev_rng) (lv := [(0, .ref 281)]) (by decide +kernel) (by (try simp only [ev_sum, ev_nv_cat]); first | done | rfl) (by (try simp only [lv_args, ev_nv_cat]); first | done | rfl) ?_ x S' hJ
  unfold jm_131
  refine ev_r_iconst (pc := 0) (k := 0) (by decide +kernel) ?_
  refine ev_r_istore_n (pc := 1) (k := 1) (by decide +kernel) (by decide +kernel) rfl ?_
  exact jlt_131_2 d hd Q     Q 0 (by decide) S _ (by exact (ev_lk_st1 (by rfl) (by decide) rfl)) (by exact ev_lk_st1_self)
/-- MendBench$Search.pushCell(IIII)I -/
def jm_125 (Q : Nat) (a0 : Int) (a1 : Int) (a2 : Int) (a3 : Int) (S : ev_St) : Option ((Int) × ev_St) := ev_b (S.1 281 7) fun x1 => if x1 < 0 then (some (a0, S)) else (ev_ck (x1 + 4) fun x3 => ev_b (ev_aln 282 : Int) fun x4 => if x3 ≤ x4 then (ev_if ((0 : Int) ≤ x1 ∧ x1 < (ev_aln 282 : Int)) (ev_b (ev_pI S 282 (Int.toNat x1) a0) fun s6 => ev_ck (x1 + 1) fun x7 => ev_if ((0 : Int) ≤ x7 ∧ x7 < (ev_aln 282 : Int)) (ev_b (ev_pI s6 282 (Int.toNat x7) a1) fun s8 => ev_ck (x1 + 2) fun x9 => ev_if ((0 : Int) ≤ x9 ∧ x9 < (ev_aln 282 : Int)) (ev_b (ev_pI s8 282 (Int.toNat x9) a2) fun s10 => ev_ck (x1 + 3) fun x11 => ev_if ((0 : Int) ≤ x11 ∧ x11 < (ev_aln 282 : Int)) (ev_b (ev_pI s10 282 (Int.toNat x11) a3) fun s12 => ev_b (s12.1 281 7) fun x13 => ev_ck (x13 + 4) fun x14 => ev_b (ev_pI s12 281 7 x14) fun s15 => some (x1, s15)))))) else (some (a0, S)))
theorem jt_125 (d : Nat) (hd : 1 ≤ d) (Q : Nat) (a0 : Int) (a1 : Int) (a2 : Int) (a3 : Int) (ha0 : ev_rng a0) (ha1 : ev_rng a1) (ha2 : ev_rng a2) (ha3 : ev_rng a3) (S : ev_St) (x : Int) (S' : ev_St) (hJ : jm_125 Q a0 a1 a2 a3 S = some (x, S')) : ev_Ref d 125 [.ref 281, .int (Int32.ofInt a0), .int (Int32.ofInt a1), .int (Int32.ofInt a2), .int (Int32.ofInt a3)] S (ev_eI x) S' (ev_rng x) := by
  obtain ⟨d, rfl⟩ : ∃ e, d = e + 1 := ⟨d - 1, by omega⟩
  refine ev_ref_of (P := ev_rng) (lv := [(0, .ref 281), (1, .int (Int32.ofInt a0)), (2, .int (Int32.ofInt a1)), (3, .int (Int32.ofInt a2)), (4, .int (Int32.ofInt a3))]) (by decide +kernel) (by (try simp only [ev_sum, ev_nv_cat]); first | done | rfl) (by (try simp only [lv_args, ev_nv_cat]); first | done | rfl) ?_ x S' hJ
  unfold jm_125
  refine ev_r_aload_n (pc := 0) (k := 0) (v := .ref 281) trivial (by decide +kernel) (by rfl) ?_
  refine ev_r_getI (pc := 1) (y := 79) (ci := 8) (f := 7) (fin := 0) (by decide +kernel) (by decide +kernel) (by exact ev_ob_281) rfl ?_
  intro x1 hx1
  refine ev_r_istore (pc := 4) (k := 5) (by decide +kernel) (by decide +kernel) rfl ?_
  refine ev_r_iload (pc := 6) (k := 5) (v := Int32.ofInt x1) (by decide +kernel) (by exact ev_lk_st1_self) ?_
  refine ev_r_if (pc := 8) (q := .lt) (o := 15) (t := 23) (c := x1 < 0) (by decide +kernel) (ev_k_lt hx1 ev_rng0) (by decide +kernel) ?_ ?_
  · intro c2
    refine ev_r_iload_n (pc := 23) (k := 1) (v := Int32.ofInt a0) (by decide +kernel) (by exact (ev_l1 (by rfl) (by decide) (by decide))) ?_
    exact ev_r_ireturn (pc := 24) (x := a0) (v := Int32.ofInt a0) (ty := .int) ha0 (by decide +kernel) (by decide +kernel) rfl rfl
  · intro c2
    refine ev_r_iload (pc := 11) (k := 5) (v := Int32.ofInt x1) (by decide +kernel) (by exact ev_lk_st1_self) ?_
    refine ev_r_iconst (pc := 13) (k := 4) (by decide +kernel) ?_
    refine ev_r_iadd (pc := 14) (by decide +kernel) ?_
    intro x3 hx3
    refine ev_r_aload_n (pc := 15) (k := 0) (v := .ref 281) trivial (by decide +kernel) (by exact (ev_l1 (by rfl) (by decide) (by decide))) ?_
    refine ev_r_getC (pc := 16) (y := 14) (ci := 8) (f := 6) (fin := 1) (k' := 282) (by decide +kernel) (by decide +kernel) (by exact ev_ob_281) rfl rfl ?_
    refine ev_r_alen (pc := 19) (kd := 1) (ty := .int) (Or.inl rfl) (by decide +kernel) (by exact ev_ab_282) ?_
    intro x4 hx4
    refine ev_r_icmp (pc := 20) (q := .le) (o := 5) (t := 25) (c := x3 ≤ x4) (by decide +kernel) (ev_k_le hx3 hx4) (by decide +kernel) ?_ ?_
    · intro c5
      refine ev_r_aload_n (pc := 25) (k := 0) (v := .ref 281) trivial (by decide +kernel) (by exact (ev_l1 (by rfl) (by decide) (by decide))) ?_
      refine ev_r_getC (pc := 26) (y := 14) (ci := 8) (f := 6) (fin := 1) (k' := 282) (by decide +kernel) (by decide +kernel) (by exact ev_ob_281) rfl rfl ?_
      refine ev_r_iload (pc := 29) (k := 5) (v := Int32.ofInt x1) (by decide +kernel) (by exact ev_lk_st1_self) ?_
      refine ev_r_iload_n (pc := 31) (k := 1) (v := Int32.ofInt a0) (by decide +kernel) (by exact (ev_l1 (by rfl) (by decide) (by decide))) ?_
      refine ev_r_iast (pc := 32) ha0 hx1 (by decide +kernel) (by exact ev_ab_282) ?_
      intro s6
      refine ev_r_aload_n (pc := 33) (k := 0) (v := .ref 281) trivial (by decide +kernel) (by exact (ev_l1 (by rfl) (by decide) (by decide))) ?_
      refine ev_r_getC (pc := 34) (y := 14) (ci := 8) (f := 6) (fin := 1) (k' := 282) (by decide +kernel) (by decide +kernel) (by exact ev_ob_281) rfl rfl ?_
      refine ev_r_iload (pc := 37) (k := 5) (v := Int32.ofInt x1) (by decide +kernel) (by exact ev_lk_st1_self) ?_
      refine ev_r_iconst (pc := 39) (k := 1) (by decide +kernel) ?_
      refine ev_r_iadd (pc := 40) (by decide +kernel) ?_
      intro x7 hx7
      refine ev_r_iload_n (pc := 41) (k := 2) (v := Int32.ofInt a1) (by decide +kernel) (by exact (ev_l1 (by rfl) (by decide) (by decide))) ?_
      refine ev_r_iast (pc := 42) ha1 hx7 (by decide +kernel) (by exact ev_ab_282) ?_
      intro s8
      refine ev_r_aload_n (pc := 43) (k := 0) (v := .ref 281) trivial (by decide +kernel) (by exact (ev_l1 (by rfl) (by decide) (by decide))) ?_
      refine ev_r_getC (pc := 44) (y := 14) (ci := 8) (f := 6) (fin := 1) (k' := 282) (by decide +kernel) (by decide +kernel) (by exact ev_ob_281) rfl rfl ?_
      refine ev_r_iload (pc := 47) (k := 5) (v := Int32.ofInt x1) (by decide +kernel) (by exact ev_lk_st1_self) ?_
      refine ev_r_iconst (pc := 49) (k := 2) (by decide +kernel) ?_
      refine ev_r_iadd (pc := 50) (by decide +kernel) ?_
      intro x9 hx9
      refine ev_r_iload_n (pc := 51) (k := 3) (v := Int32.ofInt a2) (by decide +kernel) (by exact (ev_l1 (by rfl) (by decide) (by decide))) ?_
      refine ev_r_iast (pc := 52) ha2 hx9 (by decide +kernel) (by exact ev_ab_282) ?_
      intro s10
      refine ev_r_aload_n (pc := 53) (k := 0) (v := .ref 281) trivial (by decide +kernel) (by exact (ev_l1 (by rfl) (by decide) (by decide))) ?_
      refine ev_r_getC (pc := 54) (y := 14) (ci := 8) (f := 6) (fin := 1) (k' := 282) (by decide +kernel) (by decide +kernel) (by exact ev_ob_281) rfl rfl ?_
      refine ev_r_iload (pc := 57) (k := 5) (v := Int32.ofInt x1) (by decide +kernel) (by exact ev_lk_st1_self) ?_
      refine ev_r_iconst (pc := 59) (k := 3) (by decide +kernel) ?_
      refine ev_r_iadd (pc := 60) (by decide +kernel) ?_
      intro x11 hx11
      refine ev_r_iload (pc := 61) (k := 4) (v := Int32.ofInt a3) (by decide +kernel) (by exact (ev_lk_st1 (by rfl) (by decide) rfl)) ?_
      refine ev_r_iast (pc := 63) ha3 hx11 (by decide +kernel) (by exact ev_ab_282) ?_
      intro s12
      refine ev_r_aload_n (pc := 64) (k := 0) (v := .ref 281) trivial (by decide +kernel) (by exact (ev_l1 (by rfl) (by decide) (by decide))) ?_
      refine ev_r_dup (pc := 65) rfl (by decide +kernel) ?_
      refine ev_r_getI (pc := 66) (y := 79) (ci := 8) (f := 7) (fin := 0) (by decide +kernel) (by decide +kernel) (by exact ev_ob_281) rfl ?_
      intro x13 hx13
      refine ev_r_iconst (pc := 69) (k := 4) (by decide +kernel) ?_
      refine ev_r_iadd (pc := 70) (by decide +kernel) ?_
      intro x14 hx14
      refine ev_r_putI (pc := 71) (y := 79) (ci := 8) (f := 7) hx14 (by decide +kernel) (by decide +kernel) (by exact ev_ob_281) rfl rfl ?_
      intro s15
      refine ev_r_iload (pc := 74) (k := 5) (v := Int32.ofInt x1) (by decide +kernel) (by exact ev_lk_st1_self) ?_
      exact ev_r_ireturn (pc := 76) (x := x1) (v := Int32.ofInt x1) (ty := .int) hx1 (by decide +kernel) (by decide +kernel) rfl rfl
    · intro c5
      refine ev_r_iload_n (pc := 23) (k := 1) (v := Int32.ofInt a0) (by decide +kernel) (by exact (ev_l1 (by rfl) (by decide) (by decide))) ?_
      exact ev_r_ireturn (pc := 24) (x := a0) (v := Int32.ofInt a0) (ty := .int) ha0 (by decide +kernel) (by decide +kernel) rfl rfl
/-- MendBench$Search.push(IIII)I -/
def jm_124 (Q : Nat) (a0 : Int) (a1 : Int) (a2 : Int) (a3 : Int) (S : ev_St) : Option ((Int) × ev_St) := ev_bd (jm_126 Q a0 S) fun x2 s1 => ev_jn (fun (x3 : Int) (s10 : ev_St) => ev_jn (fun (x11 : Int) (x12 : Int) (s20 : ev_St) => ev_ck (x11 + x12) fun x21 => ev_ck (x21 + a1) fun x22 => ev_bd (jm_125 Q a0 x22 a2 a3 s20) fun x24 s23 => some (x24, s23)) fun K47 => if a1 ≠ 2 then (if a1 ≠ 3 then (K47 x3 0 s10) else (K47 x3 256 s10)) else (K47 x3 8 s10)) fun K23 => if x2 = 0 then (K23 0 s1) else (ev_ck (a0 + 1) fun x28 => ev_if ((0 : Int) ≤ x28 ∧ x28 < (ev_aln 282 : Int)) (ev_b (s1.1 282 (Int.toNat x28)) fun x29 => ev_b (ev_iand x29 ((-8))) fun x30 => K23 x30 s1))
theorem jt_124 (d : Nat) (hd : 2 ≤ d) (Q : Nat) (a0 : Int) (a1 : Int) (a2 : Int) (a3 : Int) (ha0 : ev_rng a0) (ha1 : ev_rng a1) (ha2 : ev_rng a2) (ha3 : ev_rng a3) (S : ev_St) (x : Int) (S' : ev_St) (hJ : jm_124 Q a0 a1 a2 a3 S = some (x, S')) : ev_Ref d 124 [.ref 281, .int (Int32.ofInt a0), .int (Int32.ofInt a1), .int (Int32.ofInt a2), .int (Int32.ofInt a3)] S (ev_eI x) S' (ev_rng x) := by
  obtain ⟨d, rfl⟩ : ∃ e, d = e + 1 := ⟨d - 1, by omega⟩
  refine ev_ref_of (P := ev_rng) (lv := [(0, .ref 281), (1, .int (Int32.ofInt a0)), (2, .int (Int32.ofInt a1)), (3, .int (Int32.ofInt a2)), (4, .int (Int32.ofInt a3))]) (by decide +kernel) (by (try simp only [ev_sum, ev_nv_cat]); first | done | rfl) (by (try simp only [lv_args, ev_nv_cat]); first | done | rfl) ?_ x S' hJ
  unfold jm_124
  refine ev_r_aload_n (pc := 0) (k := 0) (v := .ref 281) trivial (by decide +kernel) (by rfl) ?_
  refine ev_r_iload_n (pc := 1) (k := 1) (v := Int32.ofInt a0) (by decide +kernel) (by rfl) ?_
  refine ev_r_virt (pc := 2) (y := 112) (mi := 126) (na := 1) (k := 281) (as := [.int (Int32.ofInt a0)]) (rest := []) (encc := ev_oI) (Q := ev_bl) (fun x S1 h => jt_126 d (by omega) Q a0 ha0 S x S1 h) (by exact ev_ob_281) (by decide +kernel) (by decide +kernel) (by decide +kernel) (by decide +kernel) rfl (by (try simp only [ev_sum, ev_nv_cat]); first | done | rfl) ?_
  intro x2 s1 hx2
  replace hx2 := ev_bl_rng hx2
  show ev_w _ _ _ _ _ [.int (Int32.ofInt x2)] _ _ _ _
  refine ev_r_jn (Q := fun K => ∀ (x3 : Int) (hx3 : ev_rng x3), ∀ (s10 : ev_St) (w4 : List (Nat × Value)), ev_lk w4 0 = some (.ref 281) → ev_lk w4 1 = some (.int (Int32.ofInt a0)) → ev_lk w4 2 = some (.int (Int32.ofInt a1)) → ev_lk w4 3 = some (.int (Int32.ofInt a2)) → ev_lk w4 4 = some (.int (Int32.ofInt a3)) → ev_w none (ev_Mof 124) d 23 w4 [.int (Int32.ofInt x3)] s10 (K x3 s10) ev_eI ev_rng) ?_ ?_
  · intro x3 hx3 s10 w4 e5 e6 e7 e8 e9
    refine ev_r_istore (pc := 23) (k := 5) (by decide +kernel) (by decide +kernel) rfl ?_
    refine ev_r_iload_n (pc := 25) (k := 2) (v := Int32.ofInt a1) (by decide +kernel) (by exact (ev_l1 e7 (by decide) (by decide))) ?_
    refine ev_r_iconst (pc := 26) (k := 2) (by decide +kernel) ?_
    refine ev_r_jn (Q := fun K => ∀ (x11 : Int) (hx11 : ev_rng x11), ∀ (x12 : Int) (hx12 : ev_rng x12), ∀ (s20 : ev_St) (w13 : List (Nat × Value)), ev_lk w13 0 = some (.ref 281) → ev_lk w13 1 = some (.int (Int32.ofInt a0)) → ev_lk w13 2 = some (.int (Int32.ofInt a1)) → ev_lk w13 3 = some (.int (Int32.ofInt a2)) → ev_lk w13 4 = some (.int (Int32.ofInt a3)) → ev_lk w13 5 = some (.int (Int32.ofInt x11)) → ev_w none (ev_Mof 124) d 47 w13 [.int (Int32.ofInt x12)] s20 (K x11 x12 s20) ev_eI ev_rng) ?_ ?_
    · intro x11 hx11 x12 hx12 s20 w13 e14 e15 e16 e17 e18 e19
      refine ev_r_istore (pc := 47) (k := 6) (by decide +kernel) (by decide +kernel) rfl ?_
      refine ev_r_aload_n (pc := 49) (k := 0) (v := .ref 281) trivial (by decide +kernel) (by exact (ev_l1 e14 (by decide) (by decide))) ?_
      refine ev_r_iload_n (pc := 50) (k := 1) (v := Int32.ofInt a0) (by decide +kernel) (by exact (ev_l1 e15 (by decide) (by decide))) ?_
      refine ev_r_iload (pc := 51) (k := 5) (v := Int32.ofInt x11) (by decide +kernel) (by exact (ev_lk_st1 e19 (by decide) rfl)) ?_
      refine ev_r_iload (pc := 53) (k := 6) (v := Int32.ofInt x12) (by decide +kernel) (by exact ev_lk_st1_self) ?_
      refine ev_r_iadd (pc := 55) (by decide +kernel) ?_
      intro x21 hx21
      refine ev_r_iload_n (pc := 56) (k := 2) (v := Int32.ofInt a1) (by decide +kernel) (by exact (ev_l1 e16 (by decide) (by decide))) ?_
      refine ev_r_iadd (pc := 57) (by decide +kernel) ?_
      intro x22 hx22
      refine ev_r_iload_n (pc := 58) (k := 3) (v := Int32.ofInt a2) (by decide +kernel) (by exact (ev_l1 e17 (by decide) (by decide))) ?_
      refine ev_r_iload (pc := 59) (k := 4) (v := Int32.ofInt a3) (by decide +kernel) (by exact (ev_l1 e18 (by decide) (by decide))) ?_
      refine ev_r_virt (pc := 61) (y := 115) (mi := 125) (na := 4) (k := 281) (as := [.int (Int32.ofInt a0), .int (Int32.ofInt x22), .int (Int32.ofInt a2), .int (Int32.ofInt a3)]) (rest := []) (encc := ev_oI) (Q := ev_rng) (fun x S1 h => jt_125 d (by omega) Q a0 x22 a2 a3 ha0 hx22 ha2 ha3 s20 x S1 h) (by exact ev_ob_281) (by decide +kernel) (by decide +kernel) (by decide +kernel) (by decide +kernel) rfl (by (try simp only [ev_sum, ev_nv_cat]); first | done | rfl) ?_
      intro x24 s23 hx24
      show ev_w _ _ _ _ _ [.int (Int32.ofInt x24)] _ _ _ _
      exact ev_r_ireturn (pc := 64) (x := x24) (v := Int32.ofInt x24) (ty := .int) hx24 (by decide +kernel) (by decide +kernel) rfl rfl
    · intro K47 hK47
      refine ev_r_icmp (pc := 27) (q := .ne) (o := 8) (t := 35) (c := a1 ≠ 2) (by decide +kernel) (ev_k_ne ha1 (by decide)) (by decide +kernel) ?_ ?_
      · intro c25
        refine ev_r_iload_n (pc := 35) (k := 2) (v := Int32.ofInt a1) (by decide +kernel) (by exact (ev_l1 e7 (by decide) (by decide))) ?_
        refine ev_r_iconst (pc := 36) (k := 3) (by decide +kernel) ?_
        refine ev_r_icmp (pc := 37) (q := .ne) (o := 9) (t := 46) (c := a1 ≠ 3) (by decide +kernel) (ev_k_ne ha1 (by decide)) (by decide +kernel) ?_ ?_
        · intro c26
          refine ev_r_iconst (pc := 46) (k := 0) (by decide +kernel) ?_
          exact hK47 x3 hx3 0 (by decide) s10 _ (by exact (ev_l1 e5 (by decide) (by decide))) (by exact (ev_l1 e6 (by decide) (by decide))) (by exact (ev_l1 e7 (by decide) (by decide))) (by exact (ev_l1 e8 (by decide) (by decide))) (by exact (ev_lk_st1 e9 (by decide) rfl)) (by exact ev_lk_st1_self)
        · intro c26
          refine ev_r_sipush (pc := 40) (k := 256) (by decide +kernel) (by decide +kernel) ?_
          refine ev_r_goto (pc := 43) (o := 4) (t := 47) (by decide +kernel) (by decide +kernel) ?_
          exact hK47 x3 hx3 256 (by decide) s10 _ (by exact (ev_l1 e5 (by decide) (by decide))) (by exact (ev_l1 e6 (by decide) (by decide))) (by exact (ev_l1 e7 (by decide) (by decide))) (by exact (ev_l1 e8 (by decide) (by decide))) (by exact (ev_lk_st1 e9 (by decide) rfl)) (by exact ev_lk_st1_self)
      · intro c25
        refine ev_r_bipush (pc := 30) (k := 8) (by decide +kernel) (by decide +kernel) ?_
        refine ev_r_goto (pc := 32) (o := 15) (t := 47) (by decide +kernel) (by decide +kernel) ?_
        exact hK47 x3 hx3 8 (by decide) s10 _ (by exact (ev_l1 e5 (by decide) (by decide))) (by exact (ev_l1 e6 (by decide) (by decide))) (by exact (ev_l1 e7 (by decide) (by decide))) (by exact (ev_l1 e8 (by decide) (by decide))) (by exact (ev_lk_st1 e9 (by decide) rfl)) (by exact ev_lk_st1_self)
  · intro K23 hK23
    refine ev_r_if (pc := 5) (q := .eq) (o := 17) (t := 22) (c := x2 = 0) (by decide +kernel) (ev_k_eq hx2 ev_rng0) (by decide +kernel) ?_ ?_
    · intro c27
      refine ev_r_iconst (pc := 22) (k := 0) (by decide +kernel) ?_
      exact hK23 0 (by decide) s1 _ (by rfl) (by rfl) (by rfl) (by rfl) (by rfl)
    · intro c27
      refine ev_r_aload_n (pc := 8) (k := 0) (v := .ref 281) trivial (by decide +kernel) (by rfl) ?_
      refine ev_r_getC (pc := 9) (y := 14) (ci := 8) (f := 6) (fin := 1) (k' := 282) (by decide +kernel) (by decide +kernel) (by exact ev_ob_281) rfl rfl ?_
      refine ev_r_iload_n (pc := 12) (k := 1) (v := Int32.ofInt a0) (by decide +kernel) (by rfl) ?_
      refine ev_r_iconst (pc := 13) (k := 1) (by decide +kernel) ?_
      refine ev_r_iadd (pc := 14) (by decide +kernel) ?_
      intro x28 hx28
      refine ev_r_iald (pc := 15) hx28 (by decide +kernel) (by exact ev_ab_282) ?_
      intro x29 hx29
      refine ev_r_bipush (pc := 16) (k := -8) (by decide +kernel) (by decide +kernel) ?_
      refine ev_r_iand (pc := 18) (by decide +kernel) ?_
      intro x30 hx30
      refine ev_r_goto (pc := 19) (o := 4) (t := 23) (by decide +kernel) (by decide +kernel) ?_
      exact hK23 x30 hx30 s1 _ (by rfl) (by rfl) (by rfl) (by rfl) (by rfl)
/-- MendBench.isWord(I)Z -/
def jm_210 (Q : Nat) (a0 : Int) (S : ev_St) : Option ((Int) × ev_St) := ev_jn (fun  (s3 : ev_St) => ev_jn (fun  (s6 : ev_St) => ev_jn (fun  (s9 : ev_St) => if a0 ≠ 95 then (some (0, s9)) else (some (1, s9))) fun K36 => if a0 < 48 then (K36  s6) else (if a0 ≤ 57 then (some (1, s6)) else (K36  s6))) fun K24 => if a0 < 65 then (K24  s3) else (if a0 ≤ 90 then (some (1, s3)) else (K24  s3))) fun K12 => if a0 < 97 then (K12  S) else (if a0 ≤ 122 then (some (1, S)) else (K12  S))
theorem jt_210 (d : Nat) (hd : 1 ≤ d) (Q : Nat) (a0 : Int) (ha0 : ev_rng a0) (S : ev_St) (x : Int) (S' : ev_St) (hJ : jm_210 Q a0 S = some (x, S')) : ev_Ref d 210 [.int (Int32.ofInt a0)] S (ev_eI x) S' (ev_bl x) := by
  obtain ⟨d, rfl⟩ : ∃ e, d = e + 1 := ⟨d - 1, by omega⟩
  refine ev_ref_of (P := ev_bl) (lv := [(0, .int (Int32.ofInt a0))]) (by decide +kernel) (by (try simp only [ev_sum, ev_nv_cat]); first | done | rfl) (by (try simp only [lv_args, ev_nv_cat]); first | done | rfl) ?_ x S' hJ
  unfold jm_210
  refine ev_r_iload_n (pc := 0) (k := 0) (v := Int32.ofInt a0) (by decide +kernel) (by rfl) ?_
  refine ev_r_bipush (pc := 1) (k := 97) (by decide +kernel) (by decide +kernel) ?_
  refine ev_r_jn (Q := fun K => ∀ (s3 : ev_St) (w1 : List (Nat × Value)), ev_lk w1 0 = some (.int (Int32.ofInt a0)) → ev_w none (ev_Mof 210) d 12 w1 [] s3 (K  s3) ev_eI ev_bl) ?_ ?_
  · intro  s3 w1 e2
    refine ev_r_iload_n (pc := 12) (k := 0) (v := Int32.ofInt a0) (by decide +kernel) (by exact e2) ?_
    refine ev_r_bipush (pc := 13) (k := 65) (by decide +kernel) (by decide +kernel) ?_
    refine ev_r_jn (Q := fun K => ∀ (s6 : ev_St) (w4 : List (Nat × Value)), ev_lk w4 0 = some (.int (Int32.ofInt a0)) → ev_w none (ev_Mof 210) d 24 w4 [] s6 (K  s6) ev_eI ev_bl) ?_ ?_
    · intro  s6 w4 e5
      refine ev_r_iload_n (pc := 24) (k := 0) (v := Int32.ofInt a0) (by decide +kernel) (by exact e5) ?_
      refine ev_r_bipush (pc := 25) (k := 48) (by decide +kernel) (by decide +kernel) ?_
      refine ev_r_jn (Q := fun K => ∀ (s9 : ev_St) (w7 : List (Nat × Value)), ev_lk w7 0 = some (.int (Int32.ofInt a0)) → ev_w none (ev_Mof 210) d 36 w7 [] s9 (K  s9) ev_eI ev_bl) ?_ ?_
      · intro  s9 w7 e8
        refine ev_r_iload_n (pc := 36) (k := 0) (v := Int32.ofInt a0) (by decide +kernel) (by exact e8) ?_
        refine ev_r_bipush (pc := 37) (k := 95) (by decide +kernel) (by decide +kernel) ?_
        refine ev_r_icmp (pc := 39) (q := .ne) (o := 7) (t := 46) (c := a0 ≠ 95) (by decide +kernel) (ev_k_ne ha0 (by decide)) (by decide +kernel) ?_ ?_
        · intro c10
          refine ev_r_iconst (pc := 46) (k := 0) (by decide +kernel) ?_
          exact ev_r_ireturn (pc := 47) (x := 0) (v := Int32.ofInt 0) (ty := .boolean) (by decide : ev_bl 0) (by decide +kernel) (by decide +kernel) (ev_ret_bl (by decide : ev_bl 0)) rfl
        · intro c10
          refine ev_r_iconst (pc := 42) (k := 1) (by decide +kernel) ?_
          refine ev_r_goto (pc := 43) (o := 4) (t := 47) (by decide +kernel) (by decide +kernel) ?_
          exact ev_r_ireturn (pc := 47) (x := 1) (v := Int32.ofInt 1) (ty := .boolean) (by decide : ev_bl 1) (by decide +kernel) (by decide +kernel) (ev_ret_bl (by decide : ev_bl 1)) rfl
      · intro K36 hK36
        refine ev_r_icmp (pc := 27) (q := .lt) (o := 9) (t := 36) (c := a0 < 48) (by decide +kernel) (ev_k_lt ha0 (by decide)) (by decide +kernel) ?_ ?_
        · intro c11
          exact hK36  s6 _ (by exact e5)
        · intro c11
          refine ev_r_iload_n (pc := 30) (k := 0) (v := Int32.ofInt a0) (by decide +kernel) (by exact e5) ?_
          refine ev_r_bipush (pc := 31) (k := 57) (by decide +kernel) (by decide +kernel) ?_
          refine ev_r_icmp (pc := 33) (q := .le) (o := 9) (t := 42) (c := a0 ≤ 57) (by decide +kernel) (ev_k_le ha0 (by decide)) (by decide +kernel) ?_ ?_
          · intro c12
            refine ev_r_iconst (pc := 42) (k := 1) (by decide +kernel) ?_
            refine ev_r_goto (pc := 43) (o := 4) (t := 47) (by decide +kernel) (by decide +kernel) ?_
            exact ev_r_ireturn (pc := 47) (x := 1) (v := Int32.ofInt 1) (ty := .boolean) (by decide : ev_bl 1) (by decide +kernel) (by decide +kernel) (ev_ret_bl (by decide : ev_bl 1)) rfl
          · intro c12
            exact hK36  s6 _ (by exact e5)
    · intro K24 hK24
      refine ev_r_icmp (pc := 15) (q := .lt) (o := 9) (t := 24) (c := a0 < 65) (by decide +kernel) (ev_k_lt ha0 (by decide)) (by decide +kernel) ?_ ?_
      · intro c13
        exact hK24  s3 _ (by exact e2)
      · intro c13
        refine ev_r_iload_n (pc := 18) (k := 0) (v := Int32.ofInt a0) (by decide +kernel) (by exact e2) ?_
        refine ev_r_bipush (pc := 19) (k := 90) (by decide +kernel) (by decide +kernel) ?_
        refine ev_r_icmp (pc := 21) (q := .le) (o := 21) (t := 42) (c := a0 ≤ 90) (by decide +kernel) (ev_k_le ha0 (by decide)) (by decide +kernel) ?_ ?_
        · intro c14
          refine ev_r_iconst (pc := 42) (k := 1) (by decide +kernel) ?_
          refine ev_r_goto (pc := 43) (o := 4) (t := 47) (by decide +kernel) (by decide +kernel) ?_
          exact ev_r_ireturn (pc := 47) (x := 1) (v := Int32.ofInt 1) (ty := .boolean) (by decide : ev_bl 1) (by decide +kernel) (by decide +kernel) (ev_ret_bl (by decide : ev_bl 1)) rfl
        · intro c14
          exact hK24  s3 _ (by exact e2)
  · intro K12 hK12
    refine ev_r_icmp (pc := 3) (q := .lt) (o := 9) (t := 12) (c := a0 < 97) (by decide +kernel) (ev_k_lt ha0 (by decide)) (by decide +kernel) ?_ ?_
    · intro c15
      exact hK12  S _ (by rfl)
    · intro c15
      refine ev_r_iload_n (pc := 6) (k := 0) (v := Int32.ofInt a0) (by decide +kernel) (by rfl) ?_
      refine ev_r_bipush (pc := 7) (k := 122) (by decide +kernel) (by decide +kernel) ?_
      refine ev_r_icmp (pc := 9) (q := .le) (o := 33) (t := 42) (c := a0 ≤ 122) (by decide +kernel) (ev_k_le ha0 (by decide)) (by decide +kernel) ?_ ?_
      · intro c16
        refine ev_r_iconst (pc := 42) (k := 1) (by decide +kernel) ?_
        refine ev_r_goto (pc := 43) (o := 4) (t := 47) (by decide +kernel) (by decide +kernel) ?_
        exact ev_r_ireturn (pc := 47) (x := 1) (v := Int32.ofInt 1) (ty := .boolean) (by decide : ev_bl 1) (by decide +kernel) (by decide +kernel) (ev_ret_bl (by decide : ev_bl 1)) rfl
      · intro c16
        exact hK12  S _ (by rfl)
/-- MendBench$Text.isSuch(II)Z -/
def jm_155 (Q : Nat) (k : Nat) (a0 : Int) (a1 : Int) (S : ev_St) : Option ((Int) × ev_St) := if a0 = 1 then (if a1 ≠ 0 then (some (0, S)) else (some (1, S))) else (if a0 = 2 then (if a1 = 0 then (some (1, S)) else (ev_ck (a1 - 1) fun x5 => ev_bd (jm_151 Q k x5 S) fun x7 s6 => if x7 ≠ 10 then (some (0, s6)) else (some (1, s6)))) else (if a0 = 3 then (ev_b (S.1 k 1) fun x10 => if a1 ≠ x10 then (some (0, S)) else (some (1, S))) else (if a0 = 4 then (ev_b (S.1 k 1) fun x13 => if a1 = x13 then (some (1, S)) else (ev_bd (jm_151 Q k a1 S) fun x16 s15 => if x16 ≠ 10 then (some (0, s15)) else (some (1, s15)))) else (if a0 = 5 then (ev_ck (a1 - 1) fun x19 => ev_bd (jm_151 Q k x19 S) fun x21 s20 => ev_bd (jm_210 Q x21 s20) fun x23 s22 => ev_bd (jm_151 Q k a1 s22) fun x25 s24 => ev_bd (jm_210 Q x25 s24) fun x27 s26 => if x23 = x27 then (some (0, s26)) else (some (1, s26))) else (ev_ck (a1 - 1) fun x29 => ev_bd (jm_151 Q k x29 S) fun x31 s30 => ev_bd (jm_210 Q x31 s30) fun x33 s32 => ev_bd (jm_151 Q k a1 s32) fun x35 s34 => ev_bd (jm_210 Q x35 s34) fun x37 s36 => if x33 ≠ x37 then (some (0, s36)) else (some (1, s36)))))))
theorem jt_155 (d : Nat) (hd : 2 ≤ d) (Q : Nat) (k : Nat) (a0 : Int) (a1 : Int) (hk : ev_isOb k 10 = true) (ha0 : ev_rng a0) (ha1 : ev_rng a1) (S : ev_St) (x : Int) (S' : ev_St) (hJ : jm_155 Q k a0 a1 S = some (x, S')) : ev_Ref d 155 [.ref k, .int (Int32.ofInt a0), .int (Int32.ofInt a1)] S (ev_eI x) S' (ev_bl x) := by
  obtain ⟨d, rfl⟩ : ∃ e, d = e + 1 := ⟨d - 1, by omega⟩
  refine ev_ref_of (P := ev_bl) (lv := [(0, .ref k), (1, .int (Int32.ofInt a0)), (2, .int (Int32.ofInt a1))]) (by decide +kernel) (by (try simp only [ev_sum, ev_nv_cat]); first | done | rfl) (by (try simp only [lv_args, ev_nv_cat]); first | done | rfl) ?_ x S' hJ
  unfold jm_155
  refine ev_r_iload_n (pc := 0) (k := 1) (v := Int32.ofInt a0) (by decide +kernel) (by rfl) ?_
  refine ev_r_ite ?_ ?_
  · intro c1
    refine ev_r_sw (pc := 1) (i := (.tableswitch 132 1 5 #[35, 45, 67, 81, 105])) (len := 35) (pc' := 36) (by decide +kernel) (by rw [c1]; rw [ev_pure_tsw]; exact ev_tsw_c (o := 35) (by decide) (by decide) rfl (by decide +kernel)) ?_
    refine ev_r_iload_n (pc := 36) (k := 2) (v := Int32.ofInt a1) (by decide +kernel) (by rfl) ?_
    refine ev_r_if (pc := 37) (q := .ne) (o := 7) (t := 44) (c := a1 ≠ 0) (by decide +kernel) (ev_k_ne ha1 ev_rng0) (by decide +kernel) ?_ ?_
    · intro c2
      refine ev_r_iconst (pc := 44) (k := 0) (by decide +kernel) ?_
      exact ev_r_ireturn (pc := 45) (x := 0) (v := Int32.ofInt 0) (ty := .boolean) (by decide : ev_bl 0) (by decide +kernel) (by decide +kernel) (ev_ret_bl (by decide : ev_bl 0)) rfl
    · intro c2
      refine ev_r_iconst (pc := 40) (k := 1) (by decide +kernel) ?_
      refine ev_r_goto (pc := 41) (o := 4) (t := 45) (by decide +kernel) (by decide +kernel) ?_
      exact ev_r_ireturn (pc := 45) (x := 1) (v := Int32.ofInt 1) (ty := .boolean) (by decide : ev_bl 1) (by decide +kernel) (by decide +kernel) (ev_ret_bl (by decide : ev_bl 1)) rfl
  · intro c1
    refine ev_r_ite ?_ ?_
    · intro c3
      refine ev_r_sw (pc := 1) (i := (.tableswitch 132 1 5 #[35, 45, 67, 81, 105])) (len := 35) (pc' := 46) (by decide +kernel) (by rw [c3]; rw [ev_pure_tsw]; exact ev_tsw_c (o := 45) (by decide) (by decide) rfl (by decide +kernel)) ?_
      refine ev_r_iload_n (pc := 46) (k := 2) (v := Int32.ofInt a1) (by decide +kernel) (by rfl) ?_
      refine ev_r_if (pc := 47) (q := .eq) (o := 15) (t := 62) (c := a1 = 0) (by decide +kernel) (ev_k_eq ha1 ev_rng0) (by decide +kernel) ?_ ?_
      · intro c4
        refine ev_r_iconst (pc := 62) (k := 1) (by decide +kernel) ?_
        refine ev_r_goto (pc := 63) (o := 4) (t := 67) (by decide +kernel) (by decide +kernel) ?_
        exact ev_r_ireturn (pc := 67) (x := 1) (v := Int32.ofInt 1) (ty := .boolean) (by decide : ev_bl 1) (by decide +kernel) (by decide +kernel) (ev_ret_bl (by decide : ev_bl 1)) rfl
      · intro c4
        refine ev_r_aload_n (pc := 50) (k := 0) (v := .ref k) trivial (by decide +kernel) (by rfl) ?_
        refine ev_r_iload_n (pc := 51) (k := 2) (v := Int32.ofInt a1) (by decide +kernel) (by rfl) ?_
        refine ev_r_iconst (pc := 52) (k := 1) (by decide +kernel) ?_
        refine ev_r_isub (pc := 53) (by decide +kernel) ?_
        intro x5 hx5
        refine ev_r_virt (pc := 54) (y := 25) (mi := 151) (na := 1) (k := k) (as := [.int (Int32.ofInt x5)]) (rest := []) (encc := ev_oI) (Q := ev_rng) (fun x S1 h => jt_151 d (by omega) Q k x5 hk hx5 S x S1 h) (by exact hk) (by decide +kernel) (by decide +kernel) (by decide +kernel) (by decide +kernel) rfl (by (try simp only [ev_sum, ev_nv_cat]); first | done | rfl) ?_
        intro x7 s6 hx7
        show ev_w _ _ _ _ _ [.int (Int32.ofInt x7)] _ _ _ _
        refine ev_r_bipush (pc := 57) (k := 10) (by decide +kernel) (by decide +kernel) ?_
        refine ev_r_icmp (pc := 59) (q := .ne) (o := 7) (t := 66) (c := x7 ≠ 10) (by decide +kernel) (ev_k_ne hx7 (by decide)) (by decide +kernel) ?_ ?_
        · intro c8
          refine ev_r_iconst (pc := 66) (k := 0) (by decide +kernel) ?_
          exact ev_r_ireturn (pc := 67) (x := 0) (v := Int32.ofInt 0) (ty := .boolean) (by decide : ev_bl 0) (by decide +kernel) (by decide +kernel) (ev_ret_bl (by decide : ev_bl 0)) rfl
        · intro c8
          refine ev_r_iconst (pc := 62) (k := 1) (by decide +kernel) ?_
          refine ev_r_goto (pc := 63) (o := 4) (t := 67) (by decide +kernel) (by decide +kernel) ?_
          exact ev_r_ireturn (pc := 67) (x := 1) (v := Int32.ofInt 1) (ty := .boolean) (by decide : ev_bl 1) (by decide +kernel) (by decide +kernel) (ev_ret_bl (by decide : ev_bl 1)) rfl
    · intro c3
      refine ev_r_ite ?_ ?_
      · intro c9
        refine ev_r_sw (pc := 1) (i := (.tableswitch 132 1 5 #[35, 45, 67, 81, 105])) (len := 35) (pc' := 68) (by decide +kernel) (by rw [c9]; rw [ev_pure_tsw]; exact ev_tsw_c (o := 67) (by decide) (by decide) rfl (by decide +kernel)) ?_
        refine ev_r_iload_n (pc := 68) (k := 2) (v := Int32.ofInt a1) (by decide +kernel) (by rfl) ?_
        refine ev_r_aload_n (pc := 69) (k := 0) (v := .ref k) trivial (by decide +kernel) (by rfl) ?_
        refine ev_r_getI (pc := 70) (y := 15) (ci := 10) (f := 1) (fin := 0) (by decide +kernel) (by decide +kernel) (by exact hk) rfl ?_
        intro x10 hx10
        refine ev_r_icmp (pc := 73) (q := .ne) (o := 7) (t := 80) (c := a1 ≠ x10) (by decide +kernel) (ev_k_ne ha1 hx10) (by decide +kernel) ?_ ?_
        · intro c11
          refine ev_r_iconst (pc := 80) (k := 0) (by decide +kernel) ?_
          exact ev_r_ireturn (pc := 81) (x := 0) (v := Int32.ofInt 0) (ty := .boolean) (by decide : ev_bl 0) (by decide +kernel) (by decide +kernel) (ev_ret_bl (by decide : ev_bl 0)) rfl
        · intro c11
          refine ev_r_iconst (pc := 76) (k := 1) (by decide +kernel) ?_
          refine ev_r_goto (pc := 77) (o := 4) (t := 81) (by decide +kernel) (by decide +kernel) ?_
          exact ev_r_ireturn (pc := 81) (x := 1) (v := Int32.ofInt 1) (ty := .boolean) (by decide : ev_bl 1) (by decide +kernel) (by decide +kernel) (ev_ret_bl (by decide : ev_bl 1)) rfl
      · intro c9
        refine ev_r_ite ?_ ?_
        · intro c12
          refine ev_r_sw (pc := 1) (i := (.tableswitch 132 1 5 #[35, 45, 67, 81, 105])) (len := 35) (pc' := 82) (by decide +kernel) (by rw [c12]; rw [ev_pure_tsw]; exact ev_tsw_c (o := 81) (by decide) (by decide) rfl (by decide +kernel)) ?_
          refine ev_r_iload_n (pc := 82) (k := 2) (v := Int32.ofInt a1) (by decide +kernel) (by rfl) ?_
          refine ev_r_aload_n (pc := 83) (k := 0) (v := .ref k) trivial (by decide +kernel) (by rfl) ?_
          refine ev_r_getI (pc := 84) (y := 15) (ci := 10) (f := 1) (fin := 0) (by decide +kernel) (by decide +kernel) (by exact hk) rfl ?_
          intro x13 hx13
          refine ev_r_icmp (pc := 87) (q := .eq) (o := 13) (t := 100) (c := a1 = x13) (by decide +kernel) (ev_k_eq ha1 hx13) (by decide +kernel) ?_ ?_
          · intro c14
            refine ev_r_iconst (pc := 100) (k := 1) (by decide +kernel) ?_
            refine ev_r_goto (pc := 101) (o := 4) (t := 105) (by decide +kernel) (by decide +kernel) ?_
            exact ev_r_ireturn (pc := 105) (x := 1) (v := Int32.ofInt 1) (ty := .boolean) (by decide : ev_bl 1) (by decide +kernel) (by decide +kernel) (ev_ret_bl (by decide : ev_bl 1)) rfl
          · intro c14
            refine ev_r_aload_n (pc := 90) (k := 0) (v := .ref k) trivial (by decide +kernel) (by rfl) ?_
            refine ev_r_iload_n (pc := 91) (k := 2) (v := Int32.ofInt a1) (by decide +kernel) (by rfl) ?_
            refine ev_r_virt (pc := 92) (y := 25) (mi := 151) (na := 1) (k := k) (as := [.int (Int32.ofInt a1)]) (rest := []) (encc := ev_oI) (Q := ev_rng) (fun x S1 h => jt_151 d (by omega) Q k a1 hk ha1 S x S1 h) (by exact hk) (by decide +kernel) (by decide +kernel) (by decide +kernel) (by decide +kernel) rfl (by (try simp only [ev_sum, ev_nv_cat]); first | done | rfl) ?_
            intro x16 s15 hx16
            show ev_w _ _ _ _ _ [.int (Int32.ofInt x16)] _ _ _ _
            refine ev_r_bipush (pc := 95) (k := 10) (by decide +kernel) (by decide +kernel) ?_
            refine ev_r_icmp (pc := 97) (q := .ne) (o := 7) (t := 104) (c := x16 ≠ 10) (by decide +kernel) (ev_k_ne hx16 (by decide)) (by decide +kernel) ?_ ?_
            · intro c17
              refine ev_r_iconst (pc := 104) (k := 0) (by decide +kernel) ?_
              exact ev_r_ireturn (pc := 105) (x := 0) (v := Int32.ofInt 0) (ty := .boolean) (by decide : ev_bl 0) (by decide +kernel) (by decide +kernel) (ev_ret_bl (by decide : ev_bl 0)) rfl
            · intro c17
              refine ev_r_iconst (pc := 100) (k := 1) (by decide +kernel) ?_
              refine ev_r_goto (pc := 101) (o := 4) (t := 105) (by decide +kernel) (by decide +kernel) ?_
              exact ev_r_ireturn (pc := 105) (x := 1) (v := Int32.ofInt 1) (ty := .boolean) (by decide : ev_bl 1) (by decide +kernel) (by decide +kernel) (ev_ret_bl (by decide : ev_bl 1)) rfl
        · intro c12
          refine ev_r_ite ?_ ?_
          · intro c18
            refine ev_r_sw (pc := 1) (i := (.tableswitch 132 1 5 #[35, 45, 67, 81, 105])) (len := 35) (pc' := 106) (by decide +kernel) (by rw [c18]; rw [ev_pure_tsw]; exact ev_tsw_c (o := 105) (by decide) (by decide) rfl (by decide +kernel)) ?_
            refine ev_r_aload_n (pc := 106) (k := 0) (v := .ref k) trivial (by decide +kernel) (by rfl) ?_
            refine ev_r_iload_n (pc := 107) (k := 2) (v := Int32.ofInt a1) (by decide +kernel) (by rfl) ?_
            refine ev_r_iconst (pc := 108) (k := 1) (by decide +kernel) ?_
            refine ev_r_isub (pc := 109) (by decide +kernel) ?_
            intro x19 hx19
            refine ev_r_virt (pc := 110) (y := 25) (mi := 151) (na := 1) (k := k) (as := [.int (Int32.ofInt x19)]) (rest := []) (encc := ev_oI) (Q := ev_rng) (fun x S1 h => jt_151 d (by omega) Q k x19 hk hx19 S x S1 h) (by exact hk) (by decide +kernel) (by decide +kernel) (by decide +kernel) (by decide +kernel) rfl (by (try simp only [ev_sum, ev_nv_cat]); first | done | rfl) ?_
            intro x21 s20 hx21
            show ev_w _ _ _ _ _ [.int (Int32.ofInt x21)] _ _ _ _
            refine ev_r_stat (pc := 113) (y := 29) (kind := 5) (mi := 210) (na := 1) (as := [.int (Int32.ofInt x21)]) (rest := []) (encc := ev_oI) (Q := ev_bl) (fun x S1 h => jt_210 d (by omega) Q x21 hx21 s20 x S1 h) (Or.inr (Or.inl rfl)) (by decide +kernel) (by decide +kernel) (by decide +kernel) (by decide +kernel) rfl (by (try simp only [ev_sum, ev_nv_cat]); first | done | rfl) ?_
            intro x23 s22 hx23
            replace hx23 := ev_bl_rng hx23
            show ev_w _ _ _ _ _ [.int (Int32.ofInt x23)] _ _ _ _
            refine ev_r_aload_n (pc := 116) (k := 0) (v := .ref k) trivial (by decide +kernel) (by rfl) ?_
            refine ev_r_iload_n (pc := 117) (k := 2) (v := Int32.ofInt a1) (by decide +kernel) (by rfl) ?_
            refine ev_r_virt (pc := 118) (y := 25) (mi := 151) (na := 1) (k := k) (as := [.int (Int32.ofInt a1)]) (rest := [.int (Int32.ofInt x23)]) (encc := ev_oI) (Q := ev_rng) (fun x S1 h => jt_151 d (by omega) Q k a1 hk ha1 s22 x S1 h) (by exact hk) (by decide +kernel) (by decide +kernel) (by decide +kernel) (by decide +kernel) rfl (by (try simp only [ev_sum, ev_nv_cat]); first | done | rfl) ?_
            intro x25 s24 hx25
            show ev_w _ _ _ _ _ [.int (Int32.ofInt x25), .int (Int32.ofInt x23)] _ _ _ _
            refine ev_r_stat (pc := 121) (y := 29) (kind := 5) (mi := 210) (na := 1) (as := [.int (Int32.ofInt x25)]) (rest := [.int (Int32.ofInt x23)]) (encc := ev_oI) (Q := ev_bl) (fun x S1 h => jt_210 d (by omega) Q x25 hx25 s24 x S1 h) (Or.inr (Or.inl rfl)) (by decide +kernel) (by decide +kernel) (by decide +kernel) (by decide +kernel) rfl (by (try simp only [ev_sum, ev_nv_cat]); first | done | rfl) ?_
            intro x27 s26 hx27
            replace hx27 := ev_bl_rng hx27
            show ev_w _ _ _ _ _ [.int (Int32.ofInt x27), .int (Int32.ofInt x23)] _ _ _ _
            refine ev_r_icmp (pc := 124) (q := .eq) (o := 7) (t := 131) (c := x23 = x27) (by decide +kernel) (ev_k_eq hx23 hx27) (by decide +kernel) ?_ ?_
            · intro c28
              refine ev_r_iconst (pc := 131) (k := 0) (by decide +kernel) ?_
              exact ev_r_ireturn (pc := 132) (x := 0) (v := Int32.ofInt 0) (ty := .boolean) (by decide : ev_bl 0) (by decide +kernel) (by decide +kernel) (ev_ret_bl (by decide : ev_bl 0)) rfl
            · intro c28
              refine ev_r_iconst (pc := 127) (k := 1) (by decide +kernel) ?_
              refine ev_r_goto (pc := 128) (o := 4) (t := 132) (by decide +kernel) (by decide +kernel) ?_
              exact ev_r_ireturn (pc := 132) (x := 1) (v := Int32.ofInt 1) (ty := .boolean) (by decide : ev_bl 1) (by decide +kernel) (by decide +kernel) (ev_ret_bl (by decide : ev_bl 1)) rfl
          · intro c18
            refine ev_r_sw (pc := 1) (i := (.tableswitch 132 1 5 #[35, 45, 67, 81, 105])) (len := 35) (pc' := 133) (by decide +kernel) (by rw [ev_pure_tsw]; exact ev_tsw_d ha0 (by omega) (by decide +kernel)) ?_
            refine ev_r_aload_n (pc := 133) (k := 0) (v := .ref k) trivial (by decide +kernel) (by rfl) ?_
            refine ev_r_iload_n (pc := 134) (k := 2) (v := Int32.ofInt a1) (by decide +kernel) (by rfl) ?_
            refine ev_r_iconst (pc := 135) (k := 1) (by decide +kernel) ?_
            refine ev_r_isub (pc := 136) (by decide +kernel) ?_
            intro x29 hx29
            refine ev_r_virt (pc := 137) (y := 25) (mi := 151) (na := 1) (k := k) (as := [.int (Int32.ofInt x29)]) (rest := []) (encc := ev_oI) (Q := ev_rng) (fun x S1 h => jt_151 d (by omega) Q k x29 hk hx29 S x S1 h) (by exact hk) (by decide +kernel) (by decide +kernel) (by decide +kernel) (by decide +kernel) rfl (by (try simp only [ev_sum, ev_nv_cat]); first | done | rfl) ?_
            intro x31 s30 hx31
            show ev_w _ _ _ _ _ [.int (Int32.ofInt x31)] _ _ _ _
            refine ev_r_stat (pc := 140) (y := 29) (kind := 5) (mi := 210) (na := 1) (as := [.int (Int32.ofInt x31)]) (rest := []) (encc := ev_oI) (Q := ev_bl) (fun x S1 h => jt_210 d (by omega) Q x31 hx31 s30 x S1 h) (Or.inr (Or.inl rfl)) (by decide +kernel) (by decide +kernel) (by decide +kernel) (by decide +kernel) rfl (by (try simp only [ev_sum, ev_nv_cat]); first | done | rfl) ?_
            intro x33 s32 hx33
            replace hx33 := ev_bl_rng hx33
            show ev_w _ _ _ _ _ [.int (Int32.ofInt x33)] _ _ _ _
            refine ev_r_aload_n (pc := 143) (k := 0) (v := .ref k) trivial (by decide +kernel) (by rfl) ?_
            refine ev_r_iload_n (pc := 144) (k := 2) (v := Int32.ofInt a1) (by decide +kernel) (by rfl) ?_
            refine ev_r_virt (pc := 145) (y := 25) (mi := 151) (na := 1) (k := k) (as := [.int (Int32.ofInt a1)]) (rest := [.int (Int32.ofInt x33)]) (encc := ev_oI) (Q := ev_rng) (fun x S1 h => jt_151 d (by omega) Q k a1 hk ha1 s32 x S1 h) (by exact hk) (by decide +kernel) (by decide +kernel) (by decide +kernel) (by decide +kernel) rfl (by (try simp only [ev_sum, ev_nv_cat]); first | done | rfl) ?_
            intro x35 s34 hx35
            show ev_w _ _ _ _ _ [.int (Int32.ofInt x35), .int (Int32.ofInt x33)] _ _ _ _
            refine ev_r_stat (pc := 148) (y := 29) (kind := 5) (mi := 210) (na := 1) (as := [.int (Int32.ofInt x35)]) (rest := [.int (Int32.ofInt x33)]) (encc := ev_oI) (Q := ev_bl) (fun x S1 h => jt_210 d (by omega) Q x35 hx35 s34 x S1 h) (Or.inr (Or.inl rfl)) (by decide +kernel) (by decide +kernel) (by decide +kernel) (by decide +kernel) rfl (by (try simp only [ev_sum, ev_nv_cat]); first | done | rfl) ?_
            intro x37 s36 hx37
            replace hx37 := ev_bl_rng hx37
            show ev_w _ _ _ _ _ [.int (Int32.ofInt x37), .int (Int32.ofInt x33)] _ _ _ _
            refine ev_r_icmp (pc := 151) (q := .ne) (o := 7) (t := 158) (c := x33 ≠ x37) (by decide +kernel) (ev_k_ne hx33 hx37) (by decide +kernel) ?_ ?_
            · intro c38
              refine ev_r_iconst (pc := 158) (k := 0) (by decide +kernel) ?_
              exact ev_r_ireturn (pc := 159) (x := 0) (v := Int32.ofInt 0) (ty := .boolean) (by decide : ev_bl 0) (by decide +kernel) (by decide +kernel) (ev_ret_bl (by decide : ev_bl 0)) rfl
            · intro c38
              refine ev_r_iconst (pc := 154) (k := 1) (by decide +kernel) ?_
              refine ev_r_goto (pc := 155) (o := 4) (t := 159) (by decide +kernel) (by decide +kernel) ?_
              exact ev_r_ireturn (pc := 159) (x := 1) (v := Int32.ofInt 1) (ty := .boolean) (by decide : ev_bl 1) (by decide +kernel) (by decide +kernel) (ev_ret_bl (by decide : ev_bl 1)) rfl
def jb_129_7 (Q : Nat) (a0 : Int)  (K7 : Int → Int → ev_St → Option ((Int) × ev_St)) (x2 : Int) (x3 : Int) (s9 : ev_St) : Option ((Int) × ev_St) := if 19018 ≤ x3 then (some ((-1), s9)) else (ev_bd (jm_126 Q x2 s9) fun x12 s11 => if x12 = 0 then (some ((-1), s11)) else (ev_ck (x2 + 1) fun x14 => ev_if ((0 : Int) ≤ x14 ∧ x14 < (ev_aln 282 : Int)) (ev_b (s11.1 282 (Int.toNat x14)) fun x15 => if x15 ≠ a0 then (ev_if ((0 : Int) ≤ x2 ∧ x2 < (ev_aln 282 : Int)) (ev_b (s11.1 282 (Int.toNat x2)) fun x17 => ev_ck (x3 + 1) fun x18 => K7 x17 x18 s11)) else (some (x2, s11)))))
def jl_129_7 (Q : Nat) (a0 : Int)  : Nat → Int → Int → ev_St → Option ((Int) × ev_St)
  | 0 => fun _ _ _ => none
  | q + 1 => jb_129_7 Q a0  (jl_129_7 Q a0  q)
theorem jbt_129_7 (d : Nat) (hd : 2 ≤ d + 1) (Q : Nat) (a0 : Int) (ha0 : ev_rng a0)   (K7 : Int → Int → ev_St → Option ((Int) × ev_St)) (hK7 : ∀ (x2 : Int) (hx2 : ev_rng x2), ∀ (x3 : Int) (hx3 : ev_rng x3), ∀ (s9 : ev_St) (w4 : List (Nat × Value)), ev_lk w4 0 = some (.ref 281) → ev_lk w4 1 = some (.int (Int32.ofInt a0)) → ev_lk w4 2 = some (.int (Int32.ofInt x2)) → ev_lk w4 3 = some (.int (Int32.ofInt x3)) → ev_w none (ev_Mof 129) d 7 w4 [] s9 (K7 x2 x3 s9) ev_eI ev_rng) : ∀ (x2 : Int) (hx2 : ev_rng x2), ∀ (x3 : Int) (hx3 : ev_rng x3), ∀ (s9 : ev_St) (w4 : List (Nat × Value)), ev_lk w4 0 = some (.ref 281) → ev_lk w4 1 = some (.int (Int32.ofInt a0)) → ev_lk w4 2 = some (.int (Int32.ofInt x2)) → ev_lk w4 3 = some (.int (Int32.ofInt x3)) → ev_w none (ev_Mof 129) d 7 w4 [] s9 (jb_129_7 Q a0  K7 x2 x3 s9) ev_eI ev_rng := by
  intro x2 hx2 x3 hx3 s9 w4 e5 e6 e7 e8
  unfold jb_129_7
  refine ev_r_iload_n (pc := 7) (k := 3) (v := Int32.ofInt x3) (by decide +kernel) (by exact e8) ?_
  refine ev_r_sipush (pc := 8) (k := 19018) (by decide +kernel) (by decide +kernel) ?_
  refine ev_r_icmp (pc := 11) (q := .ge) (o := 38) (t := 49) (c := 19018 ≤ x3) (by decide +kernel) (ev_k_ge hx3 (by decide)) (by decide +kernel) ?_ ?_
  · intro c10
    refine ev_r_iconst (pc := 49) (k := -1) (by decide +kernel) ?_
    exact ev_r_ireturn (pc := 50) (x := (-1)) (v := Int32.ofInt ((-1))) (ty := .int) (by decide) (by decide +kernel) (by decide +kernel) rfl rfl
  · intro c10
    refine ev_r_aload_n (pc := 14) (k := 0) (v := .ref 281) trivial (by decide +kernel) (by exact e5) ?_
    refine ev_r_iload_n (pc := 15) (k := 2) (v := Int32.ofInt x2) (by decide +kernel) (by exact e7) ?_
    refine ev_r_virt (pc := 16) (y := 112) (mi := 126) (na := 1) (k := 281) (as := [.int (Int32.ofInt x2)]) (rest := []) (encc := ev_oI) (Q := ev_bl) (fun x S1 h => jt_126 d (by omega) Q x2 hx2 s9 x S1 h) (by exact ev_ob_281) (by decide +kernel) (by decide +kernel) (by decide +kernel) (by decide +kernel) rfl (by (try simp only [ev_sum, ev_nv_cat]); first | done | rfl) ?_
    intro x12 s11 hx12
    replace hx12 := ev_bl_rng hx12
    show ev_w _ _ _ _ _ [.int (Int32.ofInt x12)] _ _ _ _
    refine ev_r_if (pc := 19) (q := .eq) (o := 30) (t := 49) (c := x12 = 0) (by decide +kernel) (ev_k_eq hx12 ev_rng0) (by decide +kernel) ?_ ?_
    · intro c13
      refine ev_r_iconst (pc := 49) (k := -1) (by decide +kernel) ?_
      exact ev_r_ireturn (pc := 50) (x := (-1)) (v := Int32.ofInt ((-1))) (ty := .int) (by decide) (by decide +kernel) (by decide +kernel) rfl rfl
    · intro c13
      refine ev_r_aload_n (pc := 22) (k := 0) (v := .ref 281) trivial (by decide +kernel) (by exact e5) ?_
      refine ev_r_getC (pc := 23) (y := 14) (ci := 8) (f := 6) (fin := 1) (k' := 282) (by decide +kernel) (by decide +kernel) (by exact ev_ob_281) rfl rfl ?_
      refine ev_r_iload_n (pc := 26) (k := 2) (v := Int32.ofInt x2) (by decide +kernel) (by exact e7) ?_
      refine ev_r_iconst (pc := 27) (k := 1) (by decide +kernel) ?_
      refine ev_r_iadd (pc := 28) (by decide +kernel) ?_
      intro x14 hx14
      refine ev_r_iald (pc := 29) hx14 (by decide +kernel) (by exact ev_ab_282) ?_
      intro x15 hx15
      refine ev_r_iload_n (pc := 30) (k := 1) (v := Int32.ofInt a0) (by decide +kernel) (by exact e6) ?_
      refine ev_r_icmp (pc := 31) (q := .ne) (o := 5) (t := 36) (c := x15 ≠ a0) (by decide +kernel) (ev_k_ne hx15 ha0) (by decide +kernel) ?_ ?_
      · intro c16
        refine ev_r_aload_n (pc := 36) (k := 0) (v := .ref 281) trivial (by decide +kernel) (by exact e5) ?_
        refine ev_r_getC (pc := 37) (y := 14) (ci := 8) (f := 6) (fin := 1) (k' := 282) (by decide +kernel) (by decide +kernel) (by exact ev_ob_281) rfl rfl ?_
        refine ev_r_iload_n (pc := 40) (k := 2) (v := Int32.ofInt x2) (by decide +kernel) (by exact e7) ?_
        refine ev_r_iald (pc := 41) hx2 (by decide +kernel) (by exact ev_ab_282) ?_
        intro x17 hx17
        refine ev_r_istore_n (pc := 42) (k := 2) (by decide +kernel) (by decide +kernel) rfl ?_
        refine ev_r_iinc (pc := 43) (k := 3) (c := 1) (x := x3) (by decide +kernel) (by decide +kernel) (by exact (ev_l1 e8 (by decide) (by decide))) (fun _ => rfl) ?_
        intro x18 hx18
        refine ev_r_goto (pc := 46) (o := (-39)) (t := 7) (by decide +kernel) (by decide +kernel) ?_
        exact hK7 x17 hx17 x18 hx18 s11 _ (by exact (ev_l1 (ev_l1 e5 (by decide) (by decide)) (by decide) (by decide))) (by exact (ev_l1 (ev_lk_st1 e6 (by decide) rfl) (by decide) (by decide))) (by exact (ev_lk_st1 ev_lk_st1_self (by decide) rfl)) (by exact ev_lk_st1_self)
      · intro c16
        refine ev_r_iload_n (pc := 34) (k := 2) (v := Int32.ofInt x2) (by decide +kernel) (by exact e7) ?_
        exact ev_r_ireturn (pc := 35) (x := x2) (v := Int32.ofInt x2) (ty := .int) hx2 (by decide +kernel) (by decide +kernel) rfl rfl
theorem jlt_129_7 (d : Nat) (hd : 2 ≤ d + 1) (Q : Nat) (a0 : Int) (ha0 : ev_rng a0)   : ∀ q : Nat, ∀ (x2 : Int) (hx2 : ev_rng x2), ∀ (x3 : Int) (hx3 : ev_rng x3), ∀ (s9 : ev_St) (w4 : List (Nat × Value)), ev_lk w4 0 = some (.ref 281) → ev_lk w4 1 = some (.int (Int32.ofInt a0)) → ev_lk w4 2 = some (.int (Int32.ofInt x2)) → ev_lk w4 3 = some (.int (Int32.ofInt x3)) → ev_w none (ev_Mof 129) d 7 w4 [] s9 (jl_129_7 Q a0  q x2 x3 s9) ev_eI ev_rng := by
  intro q
  induction q with
  | zero =>
    intro x2 hx2 x3 hx3 s9 w4 e5 e6 e7 e8
    exact ev_w_none
  | succ q ih => exact jbt_129_7 d hd Q a0 ha0   _ ih
/-- MendBench$Search.recordOf(I)I -/
def jm_129 (Q : Nat) (a0 : Int) (S : ev_St) : Option ((Int) × ev_St) := ev_b (S.1 281 5) fun x1 => jl_129_7 Q a0  Q x1 0 S
theorem jt_129 (d : Nat) (hd : 2 ≤ d) (Q : Nat) (a0 : Int) (ha0 : ev_rng a0) (S : ev_St) (x : Int) (S' : ev_St) (hJ : jm_129 Q a0 S = some (x, S')) : ev_Ref d 129 [.ref 281, .int (Int32.ofInt a0)] S (ev_eI x) S' (ev_rng x) := by
  obtain ⟨d, rfl⟩ : ∃ e, d = e + 1 := ⟨d - 1, by omega⟩
  refine ev_ref_of (P := ev_rng) (lv := [(0, .ref 281), (1, .int (Int32.ofInt a0))]) (by decide +kernel) (by (try simp only [ev_sum, ev_nv_cat]); first | done | rfl) (by (try simp only [lv_args, ev_nv_cat]); first | done | rfl) ?_ x S' hJ
  unfold jm_129
  refine ev_r_aload_n (pc := 0) (k := 0) (v := .ref 281) trivial (by decide +kernel) (by rfl) ?_
  refine ev_r_getI (pc := 1) (y := 76) (ci := 8) (f := 5) (fin := 0) (by decide +kernel) (by decide +kernel) (by exact ev_ob_281) rfl ?_
  intro x1 hx1
  refine ev_r_istore_n (pc := 4) (k := 2) (by decide +kernel) (by decide +kernel) rfl ?_
  refine ev_r_iconst (pc := 5) (k := 0) (by decide +kernel) ?_
  refine ev_r_istore_n (pc := 6) (k := 3) (by decide +kernel) (by decide +kernel) rfl ?_
  exact jlt_129_7 d hd Q a0 ha0   Q x1 hx1 0 (by decide) S _ (by exact (ev_l1 (ev_l1 (by rfl) (by decide) (by decide)) (by decide) (by decide))) (by exact (ev_l1 (ev_lk_st1 (by rfl) (by decide) rfl) (by decide) (by decide))) (by exact (ev_lk_st1 ev_lk_st1_self (by decide) rfl)) (by exact ev_lk_st1_self)
/-- MendBench.lowered(I)I -/
def jm_212 (Q : Nat) (a0 : Int) (S : ev_St) : Option ((Int) × ev_St) := if a0 < 65 then (some (a0, S)) else (if 90 < a0 then (some (a0, S)) else (ev_ck (a0 + 32) fun x3 => some (x3, S)))
theorem jt_212 (d : Nat) (hd : 1 ≤ d) (Q : Nat) (a0 : Int) (ha0 : ev_rng a0) (S : ev_St) (x : Int) (S' : ev_St) (hJ : jm_212 Q a0 S = some (x, S')) : ev_Ref d 212 [.int (Int32.ofInt a0)] S (ev_eI x) S' (ev_rng x) := by
  obtain ⟨d, rfl⟩ : ∃ e, d = e + 1 := ⟨d - 1, by omega⟩
  refine ev_ref_of (P := ev_rng) (lv := [(0, .int (Int32.ofInt a0))]) (by decide +kernel) (by (try simp only [ev_sum, ev_nv_cat]); first | done | rfl) (by (try simp only [lv_args, ev_nv_cat]); first | done | rfl) ?_ x S' hJ
  unfold jm_212
  refine ev_r_iload_n (pc := 0) (k := 0) (v := Int32.ofInt a0) (by decide +kernel) (by rfl) ?_
  refine ev_r_bipush (pc := 1) (k := 65) (by decide +kernel) (by decide +kernel) ?_
  refine ev_r_icmp (pc := 3) (q := .lt) (o := 16) (t := 19) (c := a0 < 65) (by decide +kernel) (ev_k_lt ha0 (by decide)) (by decide +kernel) ?_ ?_
  · intro c1
    refine ev_r_iload_n (pc := 19) (k := 0) (v := Int32.ofInt a0) (by decide +kernel) (by rfl) ?_
    exact ev_r_ireturn (pc := 20) (x := a0) (v := Int32.ofInt a0) (ty := .int) ha0 (by decide +kernel) (by decide +kernel) rfl rfl
  · intro c1
    refine ev_r_iload_n (pc := 6) (k := 0) (v := Int32.ofInt a0) (by decide +kernel) (by rfl) ?_
    refine ev_r_bipush (pc := 7) (k := 90) (by decide +kernel) (by decide +kernel) ?_
    refine ev_r_icmp (pc := 9) (q := .gt) (o := 10) (t := 19) (c := 90 < a0) (by decide +kernel) (ev_k_gt ha0 (by decide)) (by decide +kernel) ?_ ?_
    · intro c2
      refine ev_r_iload_n (pc := 19) (k := 0) (v := Int32.ofInt a0) (by decide +kernel) (by rfl) ?_
      exact ev_r_ireturn (pc := 20) (x := a0) (v := Int32.ofInt a0) (ty := .int) ha0 (by decide +kernel) (by decide +kernel) rfl rfl
    · intro c2
      refine ev_r_iload_n (pc := 12) (k := 0) (v := Int32.ofInt a0) (by decide +kernel) (by rfl) ?_
      refine ev_r_bipush (pc := 13) (k := 32) (by decide +kernel) (by decide +kernel) ?_
      refine ev_r_iadd (pc := 15) (by decide +kernel) ?_
      intro x3 hx3
      refine ev_r_goto (pc := 16) (o := 4) (t := 20) (by decide +kernel) (by decide +kernel) ?_
      exact ev_r_ireturn (pc := 20) (x := x3) (v := Int32.ofInt x3) (ty := .int) hx3 (by decide +kernel) (by decide +kernel) rfl rfl
def jb_137_63 (Q : Nat) (a0 : Int) (x15 : Int) (x16 : Int)  (K63 : Int → Int → ev_St → Option ((Int) × ev_St)) (x24 : Int) (x25 : Int) (s33 : ev_St) : Option ((Int) × ev_St) := if x16 ≤ x25 then (ev_b (s33.1 281 3) fun x35 => ev_ck (x35 + x16) fun x36 => ev_b (ev_pI s33 281 3 x36) fun s37 => ev_b (s37.2.2.1 281 0) fun r38 => ev_if (r38 ≠ 0) (ev_if ((0 : Int) ≤ a0 ∧ a0 < (ev_aln (((r38 - 1) + 7)) : Int)) (ev_b (s37.1 (((r38 - 1) + 7)) (Int.toNat a0)) fun x40 => ev_b (ev_pI s37 281 2 x40) fun s41 => some (1, s41)))) else (ev_b (s33.2.2.1 281 1) fun r42 => ev_ck (x15 + x25) fun x43 => ev_if (r42 ≠ 0) (ev_bd (jm_151 Q ((r42 - 1)) x43 s33) fun x46 s45 => ev_b (s45.2.2.1 281 1) fun r47 => ev_b (s45.1 281 3) fun x48 => ev_ck (x48 + x25) fun x49 => ev_if (r47 ≠ 0) (ev_bd (jm_151 Q ((r47 - 1)) x49 s45) fun x52 s51 => ev_jn (fun  (s60 : ev_St) => ev_ck (x25 + 1) fun x61 => K63 x24 x61 s60) fun K131 => if x46 = x52 then (K131  s51) else (if x24 = 0 then (some (0, s51)) else (if x52 < 0 then (some (0, s51)) else (ev_bd (jm_212 Q x46 s51) fun x66 s65 => ev_bd (jm_212 Q x52 s65) fun x68 s67 => if x66 = x68 then (K131  s67) else (some (0, s67))))))))
def jl_137_63 (Q : Nat) (a0 : Int) (x15 : Int) (x16 : Int)  : Nat → Int → Int → ev_St → Option ((Int) × ev_St)
  | 0 => fun _ _ _ => none
  | q + 1 => jb_137_63 Q a0 x15 x16  (jl_137_63 Q a0 x15 x16  q)
theorem jbt_137_63 (d : Nat) (hd : 3 ≤ d + 1) (Q : Nat) (a0 : Int) (x15 : Int) (x16 : Int) (ha0 : ev_rng a0) (hx15 : ev_rng x15) (hx16 : ev_rng x16)   (K63 : Int → Int → ev_St → Option ((Int) × ev_St)) (hK63 : ∀ (x24 : Int) (hx24 : ev_rng x24), ∀ (x25 : Int) (hx25 : ev_rng x25), ∀ (s33 : ev_St) (w26 : List (Nat × Value)), ev_lk w26 0 = some (.ref 281) → ev_lk w26 1 = some (.int (Int32.ofInt a0)) → ev_lk w26 3 = some (.int (Int32.ofInt x15)) → ev_lk w26 4 = some (.int (Int32.ofInt x16)) → ev_lk w26 5 = some (.int (Int32.ofInt x24)) → ev_lk w26 6 = some (.int (Int32.ofInt x25)) → ev_w none (ev_Mof 137) d 63 w26 [] s33 (K63 x24 x25 s33) ev_eI ev_bl) : ∀ (x24 : Int) (hx24 : ev_rng x24), ∀ (x25 : Int) (hx25 : ev_rng x25), ∀ (s33 : ev_St) (w26 : List (Nat × Value)), ev_lk w26 0 = some (.ref 281) → ev_lk w26 1 = some (.int (Int32.ofInt a0)) → ev_lk w26 3 = some (.int (Int32.ofInt x15)) → ev_lk w26 4 = some (.int (Int32.ofInt x16)) → ev_lk w26 5 = some (.int (Int32.ofInt x24)) → ev_lk w26 6 = some (.int (Int32.ofInt x25)) → ev_w none (ev_Mof 137) d 63 w26 [] s33 (jb_137_63 Q a0 x15 x16  K63 x24 x25 s33) ev_eI ev_bl := by
  intro x24 hx24 x25 hx25 s33 w26 e27 e28 e29 e30 e31 e32
  unfold jb_137_63
  refine ev_r_iload (pc := 63) (k := 6) (v := Int32.ofInt x25) (by decide +kernel) (by exact e32) ?_
  refine ev_r_iload (pc := 65) (k := 4) (v := Int32.ofInt x16) (by decide +kernel) (by exact e30) ?_
  refine ev_r_icmp (pc := 67) (q := .ge) (o := 70) (t := 137) (c := x16 ≤ x25) (by decide +kernel) (ev_k_ge hx25 hx16) (by decide +kernel) ?_ ?_
  · intro c34
    refine ev_r_aload_n (pc := 137) (k := 0) (v := .ref 281) trivial (by decide +kernel) (by exact e27) ?_
    refine ev_r_dup (pc := 138) rfl (by decide +kernel) ?_
    refine ev_r_getI (pc := 139) (y := 70) (ci := 8) (f := 3) (fin := 0) (by decide +kernel) (by decide +kernel) (by exact ev_ob_281) rfl ?_
    intro x35 hx35
    refine ev_r_iload (pc := 142) (k := 4) (v := Int32.ofInt x16) (by decide +kernel) (by exact e30) ?_
    refine ev_r_iadd (pc := 144) (by decide +kernel) ?_
    intro x36 hx36
    refine ev_r_putI (pc := 145) (y := 70) (ci := 8) (f := 3) hx36 (by decide +kernel) (by decide +kernel) (by exact ev_ob_281) rfl rfl ?_
    intro s37
    refine ev_r_aload_n (pc := 148) (k := 0) (v := .ref 281) trivial (by decide +kernel) (by exact e27) ?_
    refine ev_r_aload_n (pc := 149) (k := 0) (v := .ref 281) trivial (by decide +kernel) (by exact e27) ?_
    refine ev_r_getR (pc := 150) (y := 58) (ci := 8) (f := 0) (fin := 0) (t := 5) (by decide +kernel) (by decide +kernel) (by exact ev_ob_281) rfl rfl ?_
    intro r38 hr38
    have hr38 : r38 = 0 ∨ ev_isOb (r38 - 1) 5 = true := hr38
    refine ev_r_chk ?_
    intro c39
    refine ev_r_dr (r := r38) (fun v => [v, .ref 281]) c39 ?_
    refine ev_r_getC (pc := 153) (y := 139) (ci := 5) (f := 6) (fin := 2) (k' := ((r38 - 1) + 7)) (by decide +kernel) (by decide +kernel) (by exact (hr38.resolve_left c39)) rfl rfl ?_
    refine ev_r_iload_n (pc := 156) (k := 1) (v := Int32.ofInt a0) (by decide +kernel) (by exact e28) ?_
    refine ev_r_iald (pc := 157) ha0 (by decide +kernel) (by exact (ev_fo_5_6 (hr38.resolve_left c39))) ?_
    intro x40 hx40
    refine ev_r_putI (pc := 158) (y := 96) (ci := 8) (f := 2) hx40 (by decide +kernel) (by decide +kernel) (by exact ev_ob_281) rfl rfl ?_
    intro s41
    refine ev_r_iconst (pc := 161) (k := 1) (by decide +kernel) ?_
    exact ev_r_ireturn (pc := 162) (x := 1) (v := Int32.ofInt 1) (ty := .boolean) (by decide : ev_bl 1) (by decide +kernel) (by decide +kernel) (ev_ret_bl (by decide : ev_bl 1)) rfl
  · intro c34
    refine ev_r_aload_n (pc := 70) (k := 0) (v := .ref 281) trivial (by decide +kernel) (by exact e27) ?_
    refine ev_r_getR (pc := 71) (y := 27) (ci := 8) (f := 1) (fin := 0) (t := 10) (by decide +kernel) (by decide +kernel) (by exact ev_ob_281) rfl rfl ?_
    intro r42 hr42
    have hr42 : r42 = 0 ∨ ev_isOb (r42 - 1) 10 = true := hr42
    refine ev_r_iload_n (pc := 74) (k := 3) (v := Int32.ofInt x15) (by decide +kernel) (by exact e29) ?_
    refine ev_r_iload (pc := 75) (k := 6) (v := Int32.ofInt x25) (by decide +kernel) (by exact e32) ?_
    refine ev_r_iadd (pc := 77) (by decide +kernel) ?_
    intro x43 hx43
    refine ev_r_chk ?_
    intro c44
    refine ev_r_dr (r := r42) (fun v => [.int (Int32.ofInt x43), v]) c44 ?_
    refine ev_r_virt (pc := 78) (y := 55) (mi := 151) (na := 1) (k := (r42 - 1)) (as := [.int (Int32.ofInt x43)]) (rest := []) (encc := ev_oI) (Q := ev_rng) (fun x S1 h => jt_151 d (by omega) Q ((r42 - 1)) x43 (hr42.resolve_left c44) hx43 s33 x S1 h) (by exact (hr42.resolve_left c44)) (by decide +kernel) (by decide +kernel) (by decide +kernel) (by decide +kernel) rfl (by (try simp only [ev_sum, ev_nv_cat]); first | done | rfl) ?_
    intro x46 s45 hx46
    show ev_w _ _ _ _ _ [.int (Int32.ofInt x46)] _ _ _ _
    refine ev_r_istore (pc := 81) (k := 7) (by decide +kernel) (by decide +kernel) rfl ?_
    refine ev_r_aload_n (pc := 83) (k := 0) (v := .ref 281) trivial (by decide +kernel) (by exact (ev_l1 e27 (by decide) (by decide))) ?_
    refine ev_r_getR (pc := 84) (y := 27) (ci := 8) (f := 1) (fin := 0) (t := 10) (by decide +kernel) (by decide +kernel) (by exact ev_ob_281) rfl rfl ?_
    intro r47 hr47
    have hr47 : r47 = 0 ∨ ev_isOb (r47 - 1) 10 = true := hr47
    refine ev_r_aload_n (pc := 87) (k := 0) (v := .ref 281) trivial (by decide +kernel) (by exact (ev_l1 e27 (by decide) (by decide))) ?_
    refine ev_r_getI (pc := 88) (y := 70) (ci := 8) (f := 3) (fin := 0) (by decide +kernel) (by decide +kernel) (by exact ev_ob_281) rfl ?_
    intro x48 hx48
    refine ev_r_iload (pc := 91) (k := 6) (v := Int32.ofInt x25) (by decide +kernel) (by exact (ev_lk_st1 e32 (by decide) rfl)) ?_
    refine ev_r_iadd (pc := 93) (by decide +kernel) ?_
    intro x49 hx49
    refine ev_r_chk ?_
    intro c50
    refine ev_r_dr (r := r47) (fun v => [.int (Int32.ofInt x49), v]) c50 ?_
    refine ev_r_virt (pc := 94) (y := 55) (mi := 151) (na := 1) (k := (r47 - 1)) (as := [.int (Int32.ofInt x49)]) (rest := []) (encc := ev_oI) (Q := ev_rng) (fun x S1 h => jt_151 d (by omega) Q ((r47 - 1)) x49 (hr47.resolve_left c50) hx49 s45 x S1 h) (by exact (hr47.resolve_left c50)) (by decide +kernel) (by decide +kernel) (by decide +kernel) (by decide +kernel) rfl (by (try simp only [ev_sum, ev_nv_cat]); first | done | rfl) ?_
    intro x52 s51 hx52
    show ev_w _ _ _ _ _ [.int (Int32.ofInt x52)] _ _ _ _
    refine ev_r_istore (pc := 97) (k := 8) (by decide +kernel) (by decide +kernel) rfl ?_
    refine ev_r_iload (pc := 99) (k := 7) (v := Int32.ofInt x46) (by decide +kernel) (by exact (ev_lk_st1 ev_lk_st1_self (by decide) rfl)) ?_
    refine ev_r_iload (pc := 101) (k := 8) (v := Int32.ofInt x52) (by decide +kernel) (by exact ev_lk_st1_self) ?_
    refine ev_r_jn (Q := fun K => ∀ (s60 : ev_St) (w53 : List (Nat × Value)), ev_lk w53 0 = some (.ref 281) → ev_lk w53 1 = some (.int (Int32.ofInt a0)) → ev_lk w53 3 = some (.int (Int32.ofInt x15)) → ev_lk w53 4 = some (.int (Int32.ofInt x16)) → ev_lk w53 5 = some (.int (Int32.ofInt x24)) → ev_lk w53 6 = some (.int (Int32.ofInt x25)) → ev_w none (ev_Mof 137) d 131 w53 [] s60 (K  s60) ev_eI ev_bl) ?_ ?_
    · intro  s60 w53 e54 e55 e56 e57 e58 e59
      refine ev_r_iinc (pc := 131) (k := 6) (c := 1) (x := x25) (by decide +kernel) (by decide +kernel) (by exact e59) (fun _ => rfl) ?_
      intro x61 hx61
      refine ev_r_goto (pc := 134) (o := (-71)) (t := 63) (by decide +kernel) (by decide +kernel) ?_
      exact hK63 x24 hx24 x61 hx61 s60 _ (by exact (ev_l1 e54 (by decide) (by decide))) (by exact (ev_l1 e55 (by decide) (by decide))) (by exact (ev_l1 e56 (by decide) (by decide))) (by exact (ev_l1 e57 (by decide) (by decide))) (by exact (ev_lk_st1 e58 (by decide) rfl)) (by exact ev_lk_st1_self)
    · intro K131 hK131
      refine ev_r_icmp (pc := 103) (q := .eq) (o := 28) (t := 131) (c := x46 = x52) (by decide +kernel) (ev_k_eq hx46 hx52) (by decide +kernel) ?_ ?_
      · intro c62
        exact hK131  s51 _ (by exact (ev_l1 (ev_l1 e27 (by decide) (by decide)) (by decide) (by decide))) (by exact (ev_l1 (ev_l1 e28 (by decide) (by decide)) (by decide) (by decide))) (by exact (ev_l1 (ev_l1 e29 (by decide) (by decide)) (by decide) (by decide))) (by exact (ev_l1 (ev_l1 e30 (by decide) (by decide)) (by decide) (by decide))) (by exact (ev_l1 (ev_l1 e31 (by decide) (by decide)) (by decide) (by decide))) (by exact (ev_l1 (ev_lk_st1 e32 (by decide) rfl) (by decide) (by decide)))
      · intro c62
        refine ev_r_iload (pc := 106) (k := 5) (v := Int32.ofInt x24) (by decide +kernel) (by exact (ev_l1 (ev_l1 e31 (by decide) (by decide)) (by decide) (by decide))) ?_
        refine ev_r_if (pc := 108) (q := .eq) (o := 21) (t := 129) (c := x24 = 0) (by decide +kernel) (ev_k_eq hx24 ev_rng0) (by decide +kernel) ?_ ?_
        · intro c63
          refine ev_r_iconst (pc := 129) (k := 0) (by decide +kernel) ?_
          exact ev_r_ireturn (pc := 130) (x := 0) (v := Int32.ofInt 0) (ty := .boolean) (by decide : ev_bl 0) (by decide +kernel) (by decide +kernel) (ev_ret_bl (by decide : ev_bl 0)) rfl
        · intro c63
          refine ev_r_iload (pc := 111) (k := 8) (v := Int32.ofInt x52) (by decide +kernel) (by exact ev_lk_st1_self) ?_
          refine ev_r_if (pc := 113) (q := .lt) (o := 16) (t := 129) (c := x52 < 0) (by decide +kernel) (ev_k_lt hx52 ev_rng0) (by decide +kernel) ?_ ?_
          · intro c64
            refine ev_r_iconst (pc := 129) (k := 0) (by decide +kernel) ?_
            exact ev_r_ireturn (pc := 130) (x := 0) (v := Int32.ofInt 0) (ty := .boolean) (by decide : ev_bl 0) (by decide +kernel) (by decide +kernel) (ev_ret_bl (by decide : ev_bl 0)) rfl
          · intro c64
            refine ev_r_iload (pc := 116) (k := 7) (v := Int32.ofInt x46) (by decide +kernel) (by exact (ev_lk_st1 ev_lk_st1_self (by decide) rfl)) ?_
            refine ev_r_stat (pc := 118) (y := 190) (kind := 5) (mi := 212) (na := 1) (as := [.int (Int32.ofInt x46)]) (rest := []) (encc := ev_oI) (Q := ev_rng) (fun x S1 h => jt_212 d (by omega) Q x46 hx46 s51 x S1 h) (Or.inr (Or.inl rfl)) (by decide +kernel) (by decide +kernel) (by decide +kernel) (by decide +kernel) rfl (by (try simp only [ev_sum, ev_nv_cat]); first | done | rfl) ?_
            intro x66 s65 hx66
            show ev_w _ _ _ _ _ [.int (Int32.ofInt x66)] _ _ _ _
            refine ev_r_iload (pc := 121) (k := 8) (v := Int32.ofInt x52) (by decide +kernel) (by exact ev_lk_st1_self) ?_
            refine ev_r_stat (pc := 123) (y := 190) (kind := 5) (mi := 212) (na := 1) (as := [.int (Int32.ofInt x52)]) (rest := [.int (Int32.ofInt x66)]) (encc := ev_oI) (Q := ev_rng) (fun x S1 h => jt_212 d (by omega) Q x52 hx52 s65 x S1 h) (Or.inr (Or.inl rfl)) (by decide +kernel) (by decide +kernel) (by decide +kernel) (by decide +kernel) rfl (by (try simp only [ev_sum, ev_nv_cat]); first | done | rfl) ?_
            intro x68 s67 hx68
            show ev_w _ _ _ _ _ [.int (Int32.ofInt x68), .int (Int32.ofInt x66)] _ _ _ _
            refine ev_r_icmp (pc := 126) (q := .eq) (o := 5) (t := 131) (c := x66 = x68) (by decide +kernel) (ev_k_eq hx66 hx68) (by decide +kernel) ?_ ?_
            · intro c69
              exact hK131  s67 _ (by exact (ev_l1 (ev_l1 e27 (by decide) (by decide)) (by decide) (by decide))) (by exact (ev_l1 (ev_l1 e28 (by decide) (by decide)) (by decide) (by decide))) (by exact (ev_l1 (ev_l1 e29 (by decide) (by decide)) (by decide) (by decide))) (by exact (ev_l1 (ev_l1 e30 (by decide) (by decide)) (by decide) (by decide))) (by exact (ev_l1 (ev_l1 e31 (by decide) (by decide)) (by decide) (by decide))) (by exact (ev_l1 (ev_lk_st1 e32 (by decide) rfl) (by decide) (by decide)))
            · intro c69
              refine ev_r_iconst (pc := 129) (k := 0) (by decide +kernel) ?_
              exact ev_r_ireturn (pc := 130) (x := 0) (v := Int32.ofInt 0) (ty := .boolean) (by decide : ev_bl 0) (by decide +kernel) (by decide +kernel) (ev_ret_bl (by decide : ev_bl 0)) rfl
theorem jlt_137_63 (d : Nat) (hd : 3 ≤ d + 1) (Q : Nat) (a0 : Int) (x15 : Int) (x16 : Int) (ha0 : ev_rng a0) (hx15 : ev_rng x15) (hx16 : ev_rng x16)   : ∀ q : Nat, ∀ (x24 : Int) (hx24 : ev_rng x24), ∀ (x25 : Int) (hx25 : ev_rng x25), ∀ (s33 : ev_St) (w26 : List (Nat × Value)), ev_lk w26 0 = some (.ref 281) → ev_lk w26 1 = some (.int (Int32.ofInt a0)) → ev_lk w26 3 = some (.int (Int32.ofInt x15)) → ev_lk w26 4 = some (.int (Int32.ofInt x16)) → ev_lk w26 5 = some (.int (Int32.ofInt x24)) → ev_lk w26 6 = some (.int (Int32.ofInt x25)) → ev_w none (ev_Mof 137) d 63 w26 [] s33 (jl_137_63 Q a0 x15 x16  q x24 x25 s33) ev_eI ev_bl := by
  intro q
  induction q with
  | zero =>
    intro x24 hx24 x25 hx25 s33 w26 e27 e28 e29 e30 e31 e32
    exact ev_w_none
  | succ q ih => exact jbt_137_63 d hd Q a0 x15 x16 ha0 hx15 hx16   _ ih
/-- MendBench$Search.passGot(I)Z -/
def jm_137 (Q : Nat) (a0 : Int) (S : ev_St) : Option ((Int) × ev_St) := ev_b (S.2.2.1 281 0) fun r1 => ev_if (r1 ≠ 0) (ev_if ((0 : Int) ≤ a0 ∧ a0 < (ev_aln (((r1 - 1) + 2)) : Int)) (ev_b (S.1 (((r1 - 1) + 2)) (Int.toNat a0)) fun x3 => ev_bd (jm_129 Q x3 S) fun x5 s4 => if 0 ≤ x5 then (ev_ck (x5 + 2) fun x7 => ev_if ((0 : Int) ≤ x7 ∧ x7 < (ev_aln 282 : Int)) (ev_b (s4.1 282 (Int.toNat x7)) fun x8 => ev_ck (x5 + 3) fun x9 => ev_if ((0 : Int) ≤ x9 ∧ x9 < (ev_aln 282 : Int)) (ev_b (s4.1 282 (Int.toNat x9)) fun x10 => ev_ck (x10 - x8) fun x11 => ev_b (s4.2.2.1 281 0) fun r12 => ev_if (r12 ≠ 0) (ev_if ((0 : Int) ≤ a0 ∧ a0 < (ev_aln (((r12 - 1) + 3)) : Int)) (ev_b (s4.1 (((r12 - 1) + 3)) (Int.toNat a0)) fun x14 => ev_jn (fun (x15 : Int) (x16 : Int) (x17 : Int) (s23 : ev_St) => jl_137_63 Q a0 x15 x16  Q x17 0 s23) fun K58 => if x14 = 0 then (K58 x8 x11 0 s4) else (K58 x8 x11 1 s4)))))) else (some (0, s4))))
theorem jt_137 (d : Nat) (hd : 3 ≤ d) (Q : Nat) (a0 : Int) (ha0 : ev_rng a0) (S : ev_St) (x : Int) (S' : ev_St) (hJ : jm_137 Q a0 S = some (x, S')) : ev_Ref d 137 [.ref 281, .int (Int32.ofInt a0)] S (ev_eI x) S' (ev_bl x) := by
  obtain ⟨d, rfl⟩ : ∃ e, d = e + 1 := ⟨d - 1, by omega⟩
  refine ev_ref_of (P := ev_bl) (lv := [(0, .ref 281), (1, .int (Int32.ofInt a0))]) (by decide +kernel) (by (try simp only [ev_sum, ev_nv_cat]); first | done | rfl) (by (try simp only [lv_args, ev_nv_cat]); first | done | rfl) ?_ x S' hJ
  unfold jm_137
  refine ev_r_aload_n (pc := 0) (k := 0) (v := .ref 281) trivial (by decide +kernel) (by rfl) ?_
  refine ev_r_aload_n (pc := 1) (k := 0) (v := .ref 281) trivial (by decide +kernel) (by rfl) ?_
  refine ev_r_getR (pc := 2) (y := 58) (ci := 8) (f := 0) (fin := 0) (t := 5) (by decide +kernel) (by decide +kernel) (by exact ev_ob_281) rfl rfl ?_
  intro r1 hr1
  have hr1 : r1 = 0 ∨ ev_isOb (r1 - 1) 5 = true := hr1
  refine ev_r_chk ?_
  intro c2
  refine ev_r_dr (r := r1) (fun v => [v, .ref 281]) c2 ?_
  refine ev_r_getC (pc := 5) (y := 184) (ci := 5) (f := 1) (fin := 2) (k' := ((r1 - 1) + 2)) (by decide +kernel) (by decide +kernel) (by exact (hr1.resolve_left c2)) rfl rfl ?_
  refine ev_r_iload_n (pc := 8) (k := 1) (v := Int32.ofInt a0) (by decide +kernel) (by rfl) ?_
  refine ev_r_iald (pc := 9) ha0 (by decide +kernel) (by exact (ev_fo_5_1 (hr1.resolve_left c2))) ?_
  intro x3 hx3
  refine ev_r_virt (pc := 10) (y := 52) (mi := 129) (na := 1) (k := 281) (as := [.int (Int32.ofInt x3)]) (rest := []) (encc := ev_oI) (Q := ev_rng) (fun x S1 h => jt_129 d (by omega) Q x3 hx3 S x S1 h) (by exact ev_ob_281) (by decide +kernel) (by decide +kernel) (by decide +kernel) (by decide +kernel) rfl (by (try simp only [ev_sum, ev_nv_cat]); first | done | rfl) ?_
  intro x5 s4 hx5
  show ev_w _ _ _ _ _ [.int (Int32.ofInt x5)] _ _ _ _
  refine ev_r_istore_n (pc := 13) (k := 2) (by decide +kernel) (by decide +kernel) rfl ?_
  refine ev_r_iload_n (pc := 14) (k := 2) (v := Int32.ofInt x5) (by decide +kernel) (by exact ev_lk_st1_self) ?_
  refine ev_r_if (pc := 15) (q := .ge) (o := 5) (t := 20) (c := 0 ≤ x5) (by decide +kernel) (ev_k_ge hx5 ev_rng0) (by decide +kernel) ?_ ?_
  · intro c6
    refine ev_r_aload_n (pc := 20) (k := 0) (v := .ref 281) trivial (by decide +kernel) (by exact (ev_l1 (by rfl) (by decide) (by decide))) ?_
    refine ev_r_getC (pc := 21) (y := 14) (ci := 8) (f := 6) (fin := 1) (k' := 282) (by decide +kernel) (by decide +kernel) (by exact ev_ob_281) rfl rfl ?_
    refine ev_r_iload_n (pc := 24) (k := 2) (v := Int32.ofInt x5) (by decide +kernel) (by exact ev_lk_st1_self) ?_
    refine ev_r_iconst (pc := 25) (k := 2) (by decide +kernel) ?_
    refine ev_r_iadd (pc := 26) (by decide +kernel) ?_
    intro x7 hx7
    refine ev_r_iald (pc := 27) hx7 (by decide +kernel) (by exact ev_ab_282) ?_
    intro x8 hx8
    refine ev_r_istore_n (pc := 28) (k := 3) (by decide +kernel) (by decide +kernel) rfl ?_
    refine ev_r_aload_n (pc := 29) (k := 0) (v := .ref 281) trivial (by decide +kernel) (by exact (ev_l1 (ev_l1 (by rfl) (by decide) (by decide)) (by decide) (by decide))) ?_
    refine ev_r_getC (pc := 30) (y := 14) (ci := 8) (f := 6) (fin := 1) (k' := 282) (by decide +kernel) (by decide +kernel) (by exact ev_ob_281) rfl rfl ?_
    refine ev_r_iload_n (pc := 33) (k := 2) (v := Int32.ofInt x5) (by decide +kernel) (by exact (ev_lk_st1 ev_lk_st1_self (by decide) rfl)) ?_
    refine ev_r_iconst (pc := 34) (k := 3) (by decide +kernel) ?_
    refine ev_r_iadd (pc := 35) (by decide +kernel) ?_
    intro x9 hx9
    refine ev_r_iald (pc := 36) hx9 (by decide +kernel) (by exact ev_ab_282) ?_
    intro x10 hx10
    refine ev_r_iload_n (pc := 37) (k := 3) (v := Int32.ofInt x8) (by decide +kernel) (by exact ev_lk_st1_self) ?_
    refine ev_r_isub (pc := 38) (by decide +kernel) ?_
    intro x11 hx11
    refine ev_r_istore (pc := 39) (k := 4) (by decide +kernel) (by decide +kernel) rfl ?_
    refine ev_r_aload_n (pc := 41) (k := 0) (v := .ref 281) trivial (by decide +kernel) (by exact (ev_l1 (ev_l1 (ev_l1 (by rfl) (by decide) (by decide)) (by decide) (by decide)) (by decide) (by decide))) ?_
    refine ev_r_getR (pc := 42) (y := 58) (ci := 8) (f := 0) (fin := 0) (t := 5) (by decide +kernel) (by decide +kernel) (by exact ev_ob_281) rfl rfl ?_
    intro r12 hr12
    have hr12 : r12 = 0 ∨ ev_isOb (r12 - 1) 5 = true := hr12
    refine ev_r_chk ?_
    intro c13
    refine ev_r_dr (r := r12) (fun v => [v]) c13 ?_
    refine ev_r_getC (pc := 45) (y := 187) (ci := 5) (f := 2) (fin := 2) (k' := ((r12 - 1) + 3)) (by decide +kernel) (by decide +kernel) (by exact (hr12.resolve_left c13)) rfl rfl ?_
    refine ev_r_iload_n (pc := 48) (k := 1) (v := Int32.ofInt a0) (by decide +kernel) (by exact (ev_l1 (ev_l1 (ev_lk_st1 (by rfl) (by decide) rfl) (by decide) (by decide)) (by decide) (by decide))) ?_
    refine ev_r_iald (pc := 49) ha0 (by decide +kernel) (by exact (ev_fo_5_2 (hr12.resolve_left c13))) ?_
    intro x14 hx14
    refine ev_r_jn (Q := fun K => ∀ (x15 : Int) (hx15 : ev_rng x15), ∀ (x16 : Int) (hx16 : ev_rng x16), ∀ (x17 : Int) (hx17 : ev_rng x17), ∀ (s23 : ev_St) (w18 : List (Nat × Value)), ev_lk w18 0 = some (.ref 281) → ev_lk w18 1 = some (.int (Int32.ofInt a0)) → ev_lk w18 3 = some (.int (Int32.ofInt x15)) → ev_lk w18 4 = some (.int (Int32.ofInt x16)) → ev_w none (ev_Mof 137) d 58 w18 [.int (Int32.ofInt x17)] s23 (K x15 x16 x17 s23) ev_eI ev_bl) ?_ ?_
    · intro x15 hx15 x16 hx16 x17 hx17 s23 w18 e19 e20 e21 e22
      refine ev_r_istore (pc := 58) (k := 5) (by decide +kernel) (by decide +kernel) rfl ?_
      refine ev_r_iconst (pc := 60) (k := 0) (by decide +kernel) ?_
      refine ev_r_istore (pc := 61) (k := 6) (by decide +kernel) (by decide +kernel) rfl ?_
      exact jlt_137_63 d hd Q a0 x15 x16 ha0 hx15 hx16   Q x17 hx17 0 (by decide) s23 _ (by exact (ev_l1 (ev_l1 e19 (by decide) (by decide)) (by decide) (by decide))) (by exact (ev_l1 (ev_l1 e20 (by decide) (by decide)) (by decide) (by decide))) (by exact (ev_l1 (ev_l1 e21 (by decide) (by decide)) (by decide) (by decide))) (by exact (ev_l1 (ev_lk_st1 e22 (by decide) rfl) (by decide) (by decide))) (by exact (ev_lk_st1 ev_lk_st1_self (by decide) rfl)) (by exact ev_lk_st1_self)
    · intro K58 hK58
      refine ev_r_if (pc := 50) (q := .eq) (o := 7) (t := 57) (c := x14 = 0) (by decide +kernel) (ev_k_eq hx14 ev_rng0) (by decide +kernel) ?_ ?_
      · intro c70
        refine ev_r_iconst (pc := 57) (k := 0) (by decide +kernel) ?_
        exact hK58 x8 hx8 x11 hx11 0 (by decide) s4 _ (by exact (ev_l1 (ev_l1 (ev_l1 (by rfl) (by decide) (by decide)) (by decide) (by decide)) (by decide) (by decide))) (by exact (ev_l1 (ev_l1 (ev_lk_st1 (by rfl) (by decide) rfl) (by decide) (by decide)) (by decide) (by decide))) (by exact (ev_lk_st1 ev_lk_st1_self (by decide) rfl)) (by exact ev_lk_st1_self)
      · intro c70
        refine ev_r_iconst (pc := 53) (k := 1) (by decide +kernel) ?_
        refine ev_r_goto (pc := 54) (o := 4) (t := 58) (by decide +kernel) (by decide +kernel) ?_
        exact hK58 x8 hx8 x11 hx11 1 (by decide) s4 _ (by exact (ev_l1 (ev_l1 (ev_l1 (by rfl) (by decide) (by decide)) (by decide) (by decide)) (by decide) (by decide))) (by exact (ev_l1 (ev_l1 (ev_lk_st1 (by rfl) (by decide) rfl) (by decide) (by decide)) (by decide) (by decide))) (by exact (ev_lk_st1 ev_lk_st1_self (by decide) rfl)) (by exact ev_lk_st1_self)
  · intro c6
    refine ev_r_iconst (pc := 18) (k := 0) (by decide +kernel) ?_
    exact ev_r_ireturn (pc := 19) (x := 0) (v := Int32.ofInt 0) (ty := .boolean) (by decide : ev_bl 0) (by decide +kernel) (by decide +kernel) (ev_ret_bl (by decide : ev_bl 0)) rfl
/-- MendBench$Search.choose(I)Z -/
def jm_138 (Q : Nat) (a0 : Int) (S : ev_St) : Option ((Int) × ev_St) := ev_b (S.2.2.1 281 0) fun r1 => ev_if (r1 ≠ 0) (ev_if ((0 : Int) ≤ a0 ∧ a0 < (ev_aln (((r1 - 1) + 4)) : Int)) (ev_b (S.1 (((r1 - 1) + 4)) (Int.toNat a0)) fun x3 => ev_b (S.2.2.1 281 0) fun r4 => ev_if (r4 ≠ 0) (ev_bd (jm_59 Q ((r4 - 1)) x3 S) fun x7 s6 => ev_jn (fun (x8 : Int) (s13 : ev_St) => ev_b (s13.2.2.1 281 0) fun r14 => ev_if (r14 ≠ 0) (ev_bd (jm_59 Q ((r14 - 1)) x8 s13) fun x17 s16 => if x17 = 0 then (ev_b (s16.2.2.1 281 0) fun r19 => ev_if (r19 ≠ 0) (ev_if ((0 : Int) ≤ a0 ∧ a0 < (ev_aln (((r19 - 1) + 7)) : Int)) (ev_b (s16.1 (((r19 - 1) + 7)) (Int.toNat a0)) fun x21 => ev_b (ev_pI s16 281 2 x21) fun s22 => some (1, s22)))) else (ev_b (s16.2.2.1 281 0) fun r23 => ev_if (r23 ≠ 0) (ev_if ((0 : Int) ≤ x8 ∧ x8 < (ev_aln (((r23 - 1) + 6)) : Int)) (ev_b (s16.1 (((r23 - 1) + 6)) (Int.toNat x8)) fun x25 => ev_b (ev_pI s16 281 2 x25) fun s26 => some (1, s26)))))) fun K47 => if x7 = 0 then (K47 x3 s6) else (ev_b (s6.2.2.1 281 0) fun r28 => ev_if (r28 ≠ 0) (ev_if ((0 : Int) ≤ a0 ∧ a0 < (ev_aln (((r28 - 1) + 2)) : Int)) (ev_b (s6.1 (((r28 - 1) + 2)) (Int.toNat a0)) fun x30 => ev_bd (jm_129 Q x30 s6) fun x32 s31 => if 0 ≤ x32 then (K47 x3 s31) else (ev_b (s31.2.2.1 281 0) fun r34 => ev_if (r34 ≠ 0) (ev_if ((0 : Int) ≤ x3 ∧ x3 < (ev_aln (((r34 - 1) + 5)) : Int)) (ev_b (s31.1 (((r34 - 1) + 5)) (Int.toNat x3)) fun x36 => K47 x36 s31)))))))))
theorem jt_138 (d : Nat) (hd : 3 ≤ d) (Q : Nat) (a0 : Int) (ha0 : ev_rng a0) (S : ev_St) (x : Int) (S' : ev_St) (hJ : jm_138 Q a0 S = some (x, S')) : ev_Ref d 138 [.ref 281, .int (Int32.ofInt a0)] S (ev_eI x) S' (ev_bl x) := by
  obtain ⟨d, rfl⟩ : ∃ e, d = e + 1 := ⟨d - 1, by omega⟩
  refine ev_ref_of (P := ev_bl) (lv := [(0, .ref 281), (1, .int (Int32.ofInt a0))]) (by decide +kernel) (by (try simp only [ev_sum, ev_nv_cat]); first | done | rfl) (by (try simp only [lv_args, ev_nv_cat]); first | done | rfl) ?_ x S' hJ
  unfold jm_138
  refine ev_r_aload_n (pc := 0) (k := 0) (v := .ref 281) trivial (by decide +kernel) (by rfl) ?_
  refine ev_r_getR (pc := 1) (y := 58) (ci := 8) (f := 0) (fin := 0) (t := 5) (by decide +kernel) (by decide +kernel) (by exact ev_ob_281) rfl rfl ?_
  intro r1 hr1
  have hr1 : r1 = 0 ∨ ev_isOb (r1 - 1) 5 = true := hr1
  refine ev_r_chk ?_
  intro c2
  refine ev_r_dr (r := r1) (fun v => [v]) c2 ?_
  refine ev_r_getC (pc := 4) (y := 193) (ci := 5) (f := 3) (fin := 2) (k' := ((r1 - 1) + 4)) (by decide +kernel) (by decide +kernel) (by exact (hr1.resolve_left c2)) rfl rfl ?_
  refine ev_r_iload_n (pc := 7) (k := 1) (v := Int32.ofInt a0) (by decide +kernel) (by rfl) ?_
  refine ev_r_iald (pc := 8) ha0 (by decide +kernel) (by exact (ev_fo_5_3 (hr1.resolve_left c2))) ?_
  intro x3 hx3
  refine ev_r_istore_n (pc := 9) (k := 2) (by decide +kernel) (by decide +kernel) rfl ?_
  refine ev_r_aload_n (pc := 10) (k := 0) (v := .ref 281) trivial (by decide +kernel) (by exact (ev_l1 (by rfl) (by decide) (by decide))) ?_
  refine ev_r_getR (pc := 11) (y := 58) (ci := 8) (f := 0) (fin := 0) (t := 5) (by decide +kernel) (by decide +kernel) (by exact ev_ob_281) rfl rfl ?_
  intro r4 hr4
  have hr4 : r4 = 0 ∨ ev_isOb (r4 - 1) 5 = true := hr4
  refine ev_r_iload_n (pc := 14) (k := 2) (v := Int32.ofInt x3) (by decide +kernel) (by exact ev_lk_st1_self) ?_
  refine ev_r_chk ?_
  intro c5
  refine ev_r_dr (r := r4) (fun v => [.int (Int32.ofInt x3), v]) c5 ?_
  refine ev_r_virt (pc := 15) (y := 89) (mi := 59) (na := 1) (k := (r4 - 1)) (as := [.int (Int32.ofInt x3)]) (rest := []) (encc := ev_oI) (Q := ev_bl) (fun x S1 h => jt_59 d (by omega) Q ((r4 - 1)) x3 (hr4.resolve_left c5) hx3 S x S1 h) (by exact (hr4.resolve_left c5)) (by decide +kernel) (by decide +kernel) (by decide +kernel) (by decide +kernel) rfl (by (try simp only [ev_sum, ev_nv_cat]); first | done | rfl) ?_
  intro x7 s6 hx7
  replace hx7 := ev_bl_rng hx7
  show ev_w _ _ _ _ _ [.int (Int32.ofInt x7)] _ _ _ _
  refine ev_r_jn (Q := fun K => ∀ (x8 : Int) (hx8 : ev_rng x8), ∀ (s13 : ev_St) (w9 : List (Nat × Value)), ev_lk w9 0 = some (.ref 281) → ev_lk w9 1 = some (.int (Int32.ofInt a0)) → ev_lk w9 2 = some (.int (Int32.ofInt x8)) → ev_w none (ev_Mof 138) d 47 w9 [] s13 (K x8 s13) ev_eI ev_bl) ?_ ?_
  · intro x8 hx8 s13 w9 e10 e11 e12
    refine ev_r_aload_n (pc := 47) (k := 0) (v := .ref 281) trivial (by decide +kernel) (by exact e10) ?_
    refine ev_r_aload_n (pc := 48) (k := 0) (v := .ref 281) trivial (by decide +kernel) (by exact e10) ?_
    refine ev_r_getR (pc := 49) (y := 58) (ci := 8) (f := 0) (fin := 0) (t := 5) (by decide +kernel) (by decide +kernel) (by exact ev_ob_281) rfl rfl ?_
    intro r14 hr14
    have hr14 : r14 = 0 ∨ ev_isOb (r14 - 1) 5 = true := hr14
    refine ev_r_iload_n (pc := 52) (k := 2) (v := Int32.ofInt x8) (by decide +kernel) (by exact e12) ?_
    refine ev_r_chk ?_
    intro c15
    refine ev_r_dr (r := r14) (fun v => [.int (Int32.ofInt x8), v, .ref 281]) c15 ?_
    refine ev_r_virt (pc := 53) (y := 89) (mi := 59) (na := 1) (k := (r14 - 1)) (as := [.int (Int32.ofInt x8)]) (rest := [.ref 281]) (encc := ev_oI) (Q := ev_bl) (fun x S1 h => jt_59 d (by omega) Q ((r14 - 1)) x8 (hr14.resolve_left c15) hx8 s13 x S1 h) (by exact (hr14.resolve_left c15)) (by decide +kernel) (by decide +kernel) (by decide +kernel) (by decide +kernel) rfl (by (try simp only [ev_sum, ev_nv_cat]); first | done | rfl) ?_
    intro x17 s16 hx17
    replace hx17 := ev_bl_rng hx17
    show ev_w _ _ _ _ _ [.int (Int32.ofInt x17), .ref 281] _ _ _ _
    refine ev_r_if (pc := 56) (q := .eq) (o := 15) (t := 71) (c := x17 = 0) (by decide +kernel) (ev_k_eq hx17 ev_rng0) (by decide +kernel) ?_ ?_
    · intro c18
      refine ev_r_aload_n (pc := 71) (k := 0) (v := .ref 281) trivial (by decide +kernel) (by exact e10) ?_
      refine ev_r_getR (pc := 72) (y := 58) (ci := 8) (f := 0) (fin := 0) (t := 5) (by decide +kernel) (by decide +kernel) (by exact ev_ob_281) rfl rfl ?_
      intro r19 hr19
      have hr19 : r19 = 0 ∨ ev_isOb (r19 - 1) 5 = true := hr19
      refine ev_r_chk ?_
      intro c20
      refine ev_r_dr (r := r19) (fun v => [v, .ref 281]) c20 ?_
      refine ev_r_getC (pc := 75) (y := 139) (ci := 5) (f := 6) (fin := 2) (k' := ((r19 - 1) + 7)) (by decide +kernel) (by decide +kernel) (by exact (hr19.resolve_left c20)) rfl rfl ?_
      refine ev_r_iload_n (pc := 78) (k := 1) (v := Int32.ofInt a0) (by decide +kernel) (by exact e11) ?_
      refine ev_r_iald (pc := 79) ha0 (by decide +kernel) (by exact (ev_fo_5_6 (hr19.resolve_left c20))) ?_
      intro x21 hx21
      refine ev_r_putI (pc := 80) (y := 96) (ci := 8) (f := 2) hx21 (by decide +kernel) (by decide +kernel) (by exact ev_ob_281) rfl rfl ?_
      intro s22
      refine ev_r_iconst (pc := 83) (k := 1) (by decide +kernel) ?_
      exact ev_r_ireturn (pc := 84) (x := 1) (v := Int32.ofInt 1) (ty := .boolean) (by decide : ev_bl 1) (by decide +kernel) (by decide +kernel) (ev_ret_bl (by decide : ev_bl 1)) rfl
    · intro c18
      refine ev_r_aload_n (pc := 59) (k := 0) (v := .ref 281) trivial (by decide +kernel) (by exact e10) ?_
      refine ev_r_getR (pc := 60) (y := 58) (ci := 8) (f := 0) (fin := 0) (t := 5) (by decide +kernel) (by decide +kernel) (by exact ev_ob_281) rfl rfl ?_
      intro r23 hr23
      have hr23 : r23 = 0 ∨ ev_isOb (r23 - 1) 5 = true := hr23
      refine ev_r_chk ?_
      intro c24
      refine ev_r_dr (r := r23) (fun v => [v, .ref 281]) c24 ?_
      refine ev_r_getC (pc := 63) (y := 93) (ci := 5) (f := 5) (fin := 2) (k' := ((r23 - 1) + 6)) (by decide +kernel) (by decide +kernel) (by exact (hr23.resolve_left c24)) rfl rfl ?_
      refine ev_r_iload_n (pc := 66) (k := 2) (v := Int32.ofInt x8) (by decide +kernel) (by exact e12) ?_
      refine ev_r_iald (pc := 67) hx8 (by decide +kernel) (by exact (ev_fo_5_5 (hr23.resolve_left c24))) ?_
      intro x25 hx25
      refine ev_r_goto (pc := 68) (o := 12) (t := 80) (by decide +kernel) (by decide +kernel) ?_
      refine ev_r_putI (pc := 80) (y := 96) (ci := 8) (f := 2) hx25 (by decide +kernel) (by decide +kernel) (by exact ev_ob_281) rfl rfl ?_
      intro s26
      refine ev_r_iconst (pc := 83) (k := 1) (by decide +kernel) ?_
      exact ev_r_ireturn (pc := 84) (x := 1) (v := Int32.ofInt 1) (ty := .boolean) (by decide : ev_bl 1) (by decide +kernel) (by decide +kernel) (ev_ret_bl (by decide : ev_bl 1)) rfl
  · intro K47 hK47
    refine ev_r_if (pc := 18) (q := .eq) (o := 29) (t := 47) (c := x7 = 0) (by decide +kernel) (ev_k_eq hx7 ev_rng0) (by decide +kernel) ?_ ?_
    · intro c27
      exact hK47 x3 hx3 s6 _ (by exact (ev_l1 (by rfl) (by decide) (by decide))) (by exact (ev_lk_st1 (by rfl) (by decide) rfl)) (by exact ev_lk_st1_self)
    · intro c27
      refine ev_r_aload_n (pc := 21) (k := 0) (v := .ref 281) trivial (by decide +kernel) (by exact (ev_l1 (by rfl) (by decide) (by decide))) ?_
      refine ev_r_aload_n (pc := 22) (k := 0) (v := .ref 281) trivial (by decide +kernel) (by exact (ev_l1 (by rfl) (by decide) (by decide))) ?_
      refine ev_r_getR (pc := 23) (y := 58) (ci := 8) (f := 0) (fin := 0) (t := 5) (by decide +kernel) (by decide +kernel) (by exact ev_ob_281) rfl rfl ?_
      intro r28 hr28
      have hr28 : r28 = 0 ∨ ev_isOb (r28 - 1) 5 = true := hr28
      refine ev_r_chk ?_
      intro c29
      refine ev_r_dr (r := r28) (fun v => [v, .ref 281]) c29 ?_
      refine ev_r_getC (pc := 26) (y := 184) (ci := 5) (f := 1) (fin := 2) (k' := ((r28 - 1) + 2)) (by decide +kernel) (by decide +kernel) (by exact (hr28.resolve_left c29)) rfl rfl ?_
      refine ev_r_iload_n (pc := 29) (k := 1) (v := Int32.ofInt a0) (by decide +kernel) (by exact (ev_lk_st1 (by rfl) (by decide) rfl)) ?_
      refine ev_r_iald (pc := 30) ha0 (by decide +kernel) (by exact (ev_fo_5_1 (hr28.resolve_left c29))) ?_
      intro x30 hx30
      refine ev_r_virt (pc := 31) (y := 52) (mi := 129) (na := 1) (k := 281) (as := [.int (Int32.ofInt x30)]) (rest := []) (encc := ev_oI) (Q := ev_rng) (fun x S1 h => jt_129 d (by omega) Q x30 hx30 s6 x S1 h) (by exact ev_ob_281) (by decide +kernel) (by decide +kernel) (by decide +kernel) (by decide +kernel) rfl (by (try simp only [ev_sum, ev_nv_cat]); first | done | rfl) ?_
      intro x32 s31 hx32
      show ev_w _ _ _ _ _ [.int (Int32.ofInt x32)] _ _ _ _
      refine ev_r_if (pc := 34) (q := .ge) (o := 13) (t := 47) (c := 0 ≤ x32) (by decide +kernel) (ev_k_ge hx32 ev_rng0) (by decide +kernel) ?_ ?_
      · intro c33
        exact hK47 x3 hx3 s31 _ (by exact (ev_l1 (by rfl) (by decide) (by decide))) (by exact (ev_lk_st1 (by rfl) (by decide) rfl)) (by exact ev_lk_st1_self)
      · intro c33
        refine ev_r_aload_n (pc := 37) (k := 0) (v := .ref 281) trivial (by decide +kernel) (by exact (ev_l1 (by rfl) (by decide) (by decide))) ?_
        refine ev_r_getR (pc := 38) (y := 58) (ci := 8) (f := 0) (fin := 0) (t := 5) (by decide +kernel) (by decide +kernel) (by exact ev_ob_281) rfl rfl ?_
        intro r34 hr34
        have hr34 : r34 = 0 ∨ ev_isOb (r34 - 1) 5 = true := hr34
        refine ev_r_chk ?_
        intro c35
        refine ev_r_dr (r := r34) (fun v => [v]) c35 ?_
        refine ev_r_getC (pc := 41) (y := 178) (ci := 5) (f := 4) (fin := 2) (k' := ((r34 - 1) + 5)) (by decide +kernel) (by decide +kernel) (by exact (hr34.resolve_left c35)) rfl rfl ?_
        refine ev_r_iload_n (pc := 44) (k := 2) (v := Int32.ofInt x3) (by decide +kernel) (by exact ev_lk_st1_self) ?_
        refine ev_r_iald (pc := 45) hx3 (by decide +kernel) (by exact (ev_fo_5_4 (hr34.resolve_left c35))) ?_
        intro x36 hx36
        refine ev_r_istore_n (pc := 46) (k := 2) (by decide +kernel) (by decide +kernel) rfl ?_
        exact hK47 x36 hx36 s31 _ (by exact (ev_l1 (ev_l1 (by rfl) (by decide) (by decide)) (by decide) (by decide))) (by exact (ev_lk_st1 (ev_lk_st1 (by rfl) (by decide) rfl) (by decide) rfl)) (by exact ev_lk_st1_self)
/-- MendBench$Search.callsAround()I -/
def jm_127 (Q : Nat)  (S : ev_St) : Option ((Int) × ev_St) := ev_b (S.1 281 4) fun x1 => ev_bd (jm_126 Q x1 S) fun x3 s2 => if x3 = 0 then (some (0, s2)) else (ev_b (s2.1 281 4) fun x5 => ev_ck (x5 + 1) fun x6 => ev_if ((0 : Int) ≤ x6 ∧ x6 < (ev_aln 282 : Int)) (ev_b (s2.1 282 (Int.toNat x6)) fun x7 => ev_if (8 ≠ 0) (ev_b (ev_idiv x7 8) fun x8 => ev_if (32 ≠ 0) (ev_b (ev_irem x8 32) fun x9 => some (x9, s2)))))
theorem jt_127 (d : Nat) (hd : 2 ≤ d) (Q : Nat)   (S : ev_St) (x : Int) (S' : ev_St) (hJ : jm_127 Q  S = some (x, S')) : ev_Ref d 127 [.ref 281] S (ev_eI x) S' (ev_rng x) := by
  obtain ⟨d, rfl⟩ : ∃ e, d = e + 1 := ⟨d - 1, by omega⟩
  refine ev_ref_of (P := ev_rng) (lv := [(0, .ref 281)]) (by decide +kernel) (by (try simp only [ev_sum, ev_nv_cat]); first | done | rfl) (by (try simp only [lv_args, ev_nv_cat]); first | done | rfl) ?_ x S' hJ
  unfold jm_127
  refine ev_r_aload_n (pc := 0) (k := 0) (v := .ref 281) trivial (by decide +kernel) (by rfl) ?_
  refine ev_r_aload_n (pc := 1) (k := 0) (v := .ref 281) trivial (by decide +kernel) (by rfl) ?_
  refine ev_r_getI (pc := 2) (y := 73) (ci := 8) (f := 4) (fin := 0) (by decide +kernel) (by decide +kernel) (by exact ev_ob_281) rfl ?_
  intro x1 hx1
  refine ev_r_virt (pc := 5) (y := 112) (mi := 126) (na := 1) (k := 281) (as := [.int (Int32.ofInt x1)]) (rest := []) (encc := ev_oI) (Q := ev_bl) (fun x S1 h => jt_126 d (by omega) Q x1 hx1 S x S1 h) (by exact ev_ob_281) (by decide +kernel) (by decide +kernel) (by decide +kernel) (by decide +kernel) rfl (by (try simp only [ev_sum, ev_nv_cat]); first | done | rfl) ?_
  intro x3 s2 hx3
  replace hx3 := ev_bl_rng hx3
  show ev_w _ _ _ _ _ [.int (Int32.ofInt x3)] _ _ _ _
  refine ev_r_if (pc := 8) (q := .eq) (o := 23) (t := 31) (c := x3 = 0) (by decide +kernel) (ev_k_eq hx3 ev_rng0) (by decide +kernel) ?_ ?_
  · intro c4
    refine ev_r_iconst (pc := 31) (k := 0) (by decide +kernel) ?_
    exact ev_r_ireturn (pc := 32) (x := 0) (v := Int32.ofInt 0) (ty := .int) (by decide) (by decide +kernel) (by decide +kernel) rfl rfl
  · intro c4
    refine ev_r_aload_n (pc := 11) (k := 0) (v := .ref 281) trivial (by decide +kernel) (by rfl) ?_
    refine ev_r_getC (pc := 12) (y := 14) (ci := 8) (f := 6) (fin := 1) (k' := 282) (by decide +kernel) (by decide +kernel) (by exact ev_ob_281) rfl rfl ?_
    refine ev_r_aload_n (pc := 15) (k := 0) (v := .ref 281) trivial (by decide +kernel) (by rfl) ?_
    refine ev_r_getI (pc := 16) (y := 73) (ci := 8) (f := 4) (fin := 0) (by decide +kernel) (by decide +kernel) (by exact ev_ob_281) rfl ?_
    intro x5 hx5
    refine ev_r_iconst (pc := 19) (k := 1) (by decide +kernel) ?_
    refine ev_r_iadd (pc := 20) (by decide +kernel) ?_
    intro x6 hx6
    refine ev_r_iald (pc := 21) hx6 (by decide +kernel) (by exact ev_ab_282) ?_
    intro x7 hx7
    refine ev_r_bipush (pc := 22) (k := 8) (by decide +kernel) (by decide +kernel) ?_
    refine ev_r_idiv (pc := 24) (by decide) (by decide +kernel) ?_
    intro x8 hx8
    refine ev_r_bipush (pc := 25) (k := 32) (by decide +kernel) (by decide +kernel) ?_
    refine ev_r_irem (pc := 27) (by decide) (by decide +kernel) ?_
    intro x9 hx9
    refine ev_r_goto (pc := 28) (o := 4) (t := 32) (by decide +kernel) (by decide +kernel) ?_
    exact ev_r_ireturn (pc := 32) (x := x9) (v := Int32.ofInt x9) (ty := .int) hx9 (by decide +kernel) (by decide +kernel) rfl rfl
/-- MendBench$Search.call(I)Z -/
def jm_139 (Q : Nat) (a0 : Int) (S : ev_St) : Option ((Int) × ev_St) := ev_b (S.2.2.1 281 0) fun r1 => ev_if (r1 ≠ 0) (ev_if ((0 : Int) ≤ a0 ∧ a0 < (ev_aln (((r1 - 1) + 2)) : Int)) (ev_b (S.1 (((r1 - 1) + 2)) (Int.toNat a0)) fun x3 => ev_jn (fun (x4 : Int) (s8 : ev_St) => ev_bd (jm_127 Q  s8) fun x10 s9 => if 20 ≤ x10 then (some (0, s9)) else (ev_b (s9.2.2.1 281 0) fun r12 => ev_if (r12 ≠ 0) (ev_bd (jm_59 Q ((r12 - 1)) x4 s9) fun x15 s14 => if x15 ≠ 0 then (ev_b (s14.1 281 4) fun x17 => ev_b (s14.2.2.1 281 0) fun r18 => ev_if (r18 ≠ 0) (ev_if ((0 : Int) ≤ a0 ∧ a0 < (ev_aln (((r18 - 1) + 7)) : Int)) (ev_b (s14.1 (((r18 - 1) + 7)) (Int.toNat a0)) fun x20 => ev_b (s14.1 281 5) fun x21 => ev_bd (jm_124 Q x17 2 x20 x21 s14) fun x23 s22 => ev_b (ev_pI s22 281 4 x23) fun s24 => ev_b (s24.2.2.1 281 0) fun r25 => ev_if (r25 ≠ 0) (ev_if ((0 : Int) ≤ x4 ∧ x4 < (ev_aln (((r25 - 1) + 6)) : Int)) (ev_b (s24.1 (((r25 - 1) + 6)) (Int.toNat x4)) fun x27 => ev_b (ev_pI s24 281 2 x27) fun s28 => some (1, s28)))))) else (some (0, s14))))) fun K33 => ev_jn (fun  (s32 : ev_St) => K33 ((-1)) s32) fun K32 => if x3 < 0 then (K32  S) else (if 9 < x3 then (K32  S) else (ev_b (S.2.2.1 281 0) fun r35 => ev_if (r35 ≠ 0) (ev_if ((0 : Int) ≤ x3 ∧ x3 < (ev_aln (((r35 - 1) + 10)) : Int)) (ev_b (S.1 (((r35 - 1) + 10)) (Int.toNat x3)) fun x37 => K33 x37 S))))))
theorem jt_139 (d : Nat) (hd : 3 ≤ d) (Q : Nat) (a0 : Int) (ha0 : ev_rng a0) (S : ev_St) (x : Int) (S' : ev_St) (hJ : jm_139 Q a0 S = some (x, S')) : ev_Ref d 139 [.ref 281, .int (Int32.ofInt a0)] S (ev_eI x) S' (ev_bl x) := by
  obtain ⟨d, rfl⟩ : ∃ e, d = e + 1 := ⟨d - 1, by omega⟩
  refine ev_ref_of (P := ev_bl) (lv := [(0, .ref 281), (1, .int (Int32.ofInt a0))]) (by decide +kernel) (by (try simp only [ev_sum, ev_nv_cat]); first | done | rfl) (by (try simp only [lv_args, ev_nv_cat]); first | done | rfl) ?_ x S' hJ
  unfold jm_139
  refine ev_r_aload_n (pc := 0) (k := 0) (v := .ref 281) trivial (by decide +kernel) (by rfl) ?_
  refine ev_r_getR (pc := 1) (y := 58) (ci := 8) (f := 0) (fin := 0) (t := 5) (by decide +kernel) (by decide +kernel) (by exact ev_ob_281) rfl rfl ?_
  intro r1 hr1
  have hr1 : r1 = 0 ∨ ev_isOb (r1 - 1) 5 = true := hr1
  refine ev_r_chk ?_
  intro c2
  refine ev_r_dr (r := r1) (fun v => [v]) c2 ?_
  refine ev_r_getC (pc := 4) (y := 184) (ci := 5) (f := 1) (fin := 2) (k' := ((r1 - 1) + 2)) (by decide +kernel) (by decide +kernel) (by exact (hr1.resolve_left c2)) rfl rfl ?_
  refine ev_r_iload_n (pc := 7) (k := 1) (v := Int32.ofInt a0) (by decide +kernel) (by rfl) ?_
  refine ev_r_iald (pc := 8) ha0 (by decide +kernel) (by exact (ev_fo_5_1 (hr1.resolve_left c2))) ?_
  intro x3 hx3
  refine ev_r_istore_n (pc := 9) (k := 2) (by decide +kernel) (by decide +kernel) rfl ?_
  refine ev_r_iload_n (pc := 10) (k := 2) (v := Int32.ofInt x3) (by decide +kernel) (by exact ev_lk_st1_self) ?_
  refine ev_r_jn (Q := fun K => ∀ (x4 : Int) (hx4 : ev_rng x4), ∀ (s8 : ev_St) (w5 : List (Nat × Value)), ev_lk w5 0 = some (.ref 281) → ev_lk w5 1 = some (.int (Int32.ofInt a0)) → ev_w none (ev_Mof 139) d 33 w5 [.int (Int32.ofInt x4)] s8 (K x4 s8) ev_eI ev_bl) ?_ ?_
  · intro x4 hx4 s8 w5 e6 e7
    refine ev_r_istore_n (pc := 33) (k := 3) (by decide +kernel) (by decide +kernel) rfl ?_
    refine ev_r_aload_n (pc := 34) (k := 0) (v := .ref 281) trivial (by decide +kernel) (by exact (ev_l1 e6 (by decide) (by decide))) ?_
    refine ev_r_virt (pc := 35) (y := 199) (mi := 127) (na := 0) (k := 281) (as := []) (rest := []) (encc := ev_oI) (Q := ev_rng) (fun x S1 h => jt_127 d (by omega) Q   s8 x S1 h) (by exact ev_ob_281) (by decide +kernel) (by decide +kernel) (by decide +kernel) (by decide +kernel) rfl (by (try simp only [ev_sum, ev_nv_cat]); first | done | rfl) ?_
    intro x10 s9 hx10
    show ev_w _ _ _ _ _ [.int (Int32.ofInt x10)] _ _ _ _
    refine ev_r_bipush (pc := 38) (k := 20) (by decide +kernel) (by decide +kernel) ?_
    refine ev_r_icmp (pc := 40) (q := .ge) (o := 14) (t := 54) (c := 20 ≤ x10) (by decide +kernel) (ev_k_ge hx10 (by decide)) (by decide +kernel) ?_ ?_
    · intro c11
      refine ev_r_iconst (pc := 54) (k := 0) (by decide +kernel) ?_
      exact ev_r_ireturn (pc := 55) (x := 0) (v := Int32.ofInt 0) (ty := .boolean) (by decide : ev_bl 0) (by decide +kernel) (by decide +kernel) (ev_ret_bl (by decide : ev_bl 0)) rfl
    · intro c11
      refine ev_r_aload_n (pc := 43) (k := 0) (v := .ref 281) trivial (by decide +kernel) (by exact (ev_l1 e6 (by decide) (by decide))) ?_
      refine ev_r_getR (pc := 44) (y := 58) (ci := 8) (f := 0) (fin := 0) (t := 5) (by decide +kernel) (by decide +kernel) (by exact ev_ob_281) rfl rfl ?_
      intro r12 hr12
      have hr12 : r12 = 0 ∨ ev_isOb (r12 - 1) 5 = true := hr12
      refine ev_r_iload_n (pc := 47) (k := 3) (v := Int32.ofInt x4) (by decide +kernel) (by exact ev_lk_st1_self) ?_
      refine ev_r_chk ?_
      intro c13
      refine ev_r_dr (r := r12) (fun v => [.int (Int32.ofInt x4), v]) c13 ?_
      refine ev_r_virt (pc := 48) (y := 89) (mi := 59) (na := 1) (k := (r12 - 1)) (as := [.int (Int32.ofInt x4)]) (rest := []) (encc := ev_oI) (Q := ev_bl) (fun x S1 h => jt_59 d (by omega) Q ((r12 - 1)) x4 (hr12.resolve_left c13) hx4 s9 x S1 h) (by exact (hr12.resolve_left c13)) (by decide +kernel) (by decide +kernel) (by decide +kernel) (by decide +kernel) rfl (by (try simp only [ev_sum, ev_nv_cat]); first | done | rfl) ?_
      intro x15 s14 hx15
      replace hx15 := ev_bl_rng hx15
      show ev_w _ _ _ _ _ [.int (Int32.ofInt x15)] _ _ _ _
      refine ev_r_if (pc := 51) (q := .ne) (o := 5) (t := 56) (c := x15 ≠ 0) (by decide +kernel) (ev_k_ne hx15 ev_rng0) (by decide +kernel) ?_ ?_
      · intro c16
        refine ev_r_aload_n (pc := 56) (k := 0) (v := .ref 281) trivial (by decide +kernel) (by exact (ev_l1 e6 (by decide) (by decide))) ?_
        refine ev_r_aload_n (pc := 57) (k := 0) (v := .ref 281) trivial (by decide +kernel) (by exact (ev_l1 e6 (by decide) (by decide))) ?_
        refine ev_r_aload_n (pc := 58) (k := 0) (v := .ref 281) trivial (by decide +kernel) (by exact (ev_l1 e6 (by decide) (by decide))) ?_
        refine ev_r_getI (pc := 59) (y := 73) (ci := 8) (f := 4) (fin := 0) (by decide +kernel) (by decide +kernel) (by exact ev_ob_281) rfl ?_
        intro x17 hx17
        refine ev_r_iconst (pc := 62) (k := 2) (by decide +kernel) ?_
        refine ev_r_aload_n (pc := 63) (k := 0) (v := .ref 281) trivial (by decide +kernel) (by exact (ev_l1 e6 (by decide) (by decide))) ?_
        refine ev_r_getR (pc := 64) (y := 58) (ci := 8) (f := 0) (fin := 0) (t := 5) (by decide +kernel) (by decide +kernel) (by exact ev_ob_281) rfl rfl ?_
        intro r18 hr18
        have hr18 : r18 = 0 ∨ ev_isOb (r18 - 1) 5 = true := hr18
        refine ev_r_chk ?_
        intro c19
        refine ev_r_dr (r := r18) (fun v => [v, .int (Int32.ofInt 2), .int (Int32.ofInt x17), .ref 281, .ref 281]) c19 ?_
        refine ev_r_getC (pc := 67) (y := 139) (ci := 5) (f := 6) (fin := 2) (k' := ((r18 - 1) + 7)) (by decide +kernel) (by decide +kernel) (by exact (hr18.resolve_left c19)) rfl rfl ?_
        refine ev_r_iload_n (pc := 70) (k := 1) (v := Int32.ofInt a0) (by decide +kernel) (by exact (ev_l1 e7 (by decide) (by decide))) ?_
        refine ev_r_iald (pc := 71) ha0 (by decide +kernel) (by exact (ev_fo_5_6 (hr18.resolve_left c19))) ?_
        intro x20 hx20
        refine ev_r_aload_n (pc := 72) (k := 0) (v := .ref 281) trivial (by decide +kernel) (by exact (ev_l1 e6 (by decide) (by decide))) ?_
        refine ev_r_getI (pc := 73) (y := 76) (ci := 8) (f := 5) (fin := 0) (by decide +kernel) (by decide +kernel) (by exact ev_ob_281) rfl ?_
        intro x21 hx21
        refine ev_r_virt (pc := 76) (y := 142) (mi := 124) (na := 4) (k := 281) (as := [.int (Int32.ofInt x17), .int (Int32.ofInt 2), .int (Int32.ofInt x20), .int (Int32.ofInt x21)]) (rest := [.ref 281]) (encc := ev_oI) (Q := ev_rng) (fun x S1 h => jt_124 d (by omega) Q x17 2 x20 x21 hx17 (by decide) hx20 hx21 s14 x S1 h) (by exact ev_ob_281) (by decide +kernel) (by decide +kernel) (by decide +kernel) (by decide +kernel) rfl (by (try simp only [ev_sum, ev_nv_cat]); first | done | rfl) ?_
        intro x23 s22 hx23
        show ev_w _ _ _ _ _ [.int (Int32.ofInt x23), .ref 281] _ _ _ _
        refine ev_r_putI (pc := 79) (y := 73) (ci := 8) (f := 4) hx23 (by decide +kernel) (by decide +kernel) (by exact ev_ob_281) rfl rfl ?_
        intro s24
        refine ev_r_aload_n (pc := 82) (k := 0) (v := .ref 281) trivial (by decide +kernel) (by exact (ev_l1 e6 (by decide) (by decide))) ?_
        refine ev_r_aload_n (pc := 83) (k := 0) (v := .ref 281) trivial (by decide +kernel) (by exact (ev_l1 e6 (by decide) (by decide))) ?_
        refine ev_r_getR (pc := 84) (y := 58) (ci := 8) (f := 0) (fin := 0) (t := 5) (by decide +kernel) (by decide +kernel) (by exact ev_ob_281) rfl rfl ?_
        intro r25 hr25
        have hr25 : r25 = 0 ∨ ev_isOb (r25 - 1) 5 = true := hr25
        refine ev_r_chk ?_
        intro c26
        refine ev_r_dr (r := r25) (fun v => [v, .ref 281]) c26 ?_
        refine ev_r_getC (pc := 87) (y := 93) (ci := 5) (f := 5) (fin := 2) (k' := ((r25 - 1) + 6)) (by decide +kernel) (by decide +kernel) (by exact (hr25.resolve_left c26)) rfl rfl ?_
        refine ev_r_iload_n (pc := 90) (k := 3) (v := Int32.ofInt x4) (by decide +kernel) (by exact ev_lk_st1_self) ?_
        refine ev_r_iald (pc := 91) hx4 (by decide +kernel) (by exact (ev_fo_5_5 (hr25.resolve_left c26))) ?_
        intro x27 hx27
        refine ev_r_putI (pc := 92) (y := 96) (ci := 8) (f := 2) hx27 (by decide +kernel) (by decide +kernel) (by exact ev_ob_281) rfl rfl ?_
        intro s28
        refine ev_r_iconst (pc := 95) (k := 1) (by decide +kernel) ?_
        exact ev_r_ireturn (pc := 96) (x := 1) (v := Int32.ofInt 1) (ty := .boolean) (by decide : ev_bl 1) (by decide +kernel) (by decide +kernel) (ev_ret_bl (by decide : ev_bl 1)) rfl
      · intro c16
        refine ev_r_iconst (pc := 54) (k := 0) (by decide +kernel) ?_
        exact ev_r_ireturn (pc := 55) (x := 0) (v := Int32.ofInt 0) (ty := .boolean) (by decide : ev_bl 0) (by decide +kernel) (by decide +kernel) (ev_ret_bl (by decide : ev_bl 0)) rfl
  · intro K33 hK33
    refine ev_r_jn (Q := fun K => ∀ (s32 : ev_St) (w29 : List (Nat × Value)), ev_lk w29 0 = some (.ref 281) → ev_lk w29 1 = some (.int (Int32.ofInt a0)) → ev_w none (ev_Mof 139) d 32 w29 [] s32 (K  s32) ev_eI ev_bl) ?_ ?_
    · intro  s32 w29 e30 e31
      refine ev_r_iconst (pc := 32) (k := -1) (by decide +kernel) ?_
      exact hK33 ((-1)) (by decide) s32 _ (by exact e30) (by exact e31)
    · intro K32 hK32
      refine ev_r_if (pc := 11) (q := .lt) (o := 21) (t := 32) (c := x3 < 0) (by decide +kernel) (ev_k_lt hx3 ev_rng0) (by decide +kernel) ?_ ?_
      · intro c33
        exact hK32  S _ (by exact (ev_l1 (by rfl) (by decide) (by decide))) (by exact (ev_lk_st1 (by rfl) (by decide) rfl))
      · intro c33
        refine ev_r_iload_n (pc := 14) (k := 2) (v := Int32.ofInt x3) (by decide +kernel) (by exact ev_lk_st1_self) ?_
        refine ev_r_bipush (pc := 15) (k := 9) (by decide +kernel) (by decide +kernel) ?_
        refine ev_r_icmp (pc := 17) (q := .gt) (o := 15) (t := 32) (c := 9 < x3) (by decide +kernel) (ev_k_gt hx3 (by decide)) (by decide +kernel) ?_ ?_
        · intro c34
          exact hK32  S _ (by exact (ev_l1 (by rfl) (by decide) (by decide))) (by exact (ev_lk_st1 (by rfl) (by decide) rfl))
        · intro c34
          refine ev_r_aload_n (pc := 20) (k := 0) (v := .ref 281) trivial (by decide +kernel) (by exact (ev_l1 (by rfl) (by decide) (by decide))) ?_
          refine ev_r_getR (pc := 21) (y := 58) (ci := 8) (f := 0) (fin := 0) (t := 5) (by decide +kernel) (by decide +kernel) (by exact ev_ob_281) rfl rfl ?_
          intro r35 hr35
          have hr35 : r35 = 0 ∨ ev_isOb (r35 - 1) 5 = true := hr35
          refine ev_r_chk ?_
          intro c36
          refine ev_r_dr (r := r35) (fun v => [v]) c36 ?_
          refine ev_r_getC (pc := 24) (y := 196) (ci := 5) (f := 9) (fin := 2) (k' := ((r35 - 1) + 10)) (by decide +kernel) (by decide +kernel) (by exact (hr35.resolve_left c36)) rfl rfl ?_
          refine ev_r_iload_n (pc := 27) (k := 2) (v := Int32.ofInt x3) (by decide +kernel) (by exact ev_lk_st1_self) ?_
          refine ev_r_iald (pc := 28) hx3 (by decide +kernel) (by exact (ev_fo_5_9 (hr35.resolve_left c36))) ?_
          intro x37 hx37
          refine ev_r_goto (pc := 29) (o := 4) (t := 33) (by decide +kernel) (by decide +kernel) ?_
          exact hK33 x37 hx37 S _ (by exact (ev_l1 (by rfl) (by decide) (by decide))) (by exact (ev_lk_st1 (by rfl) (by decide) rfl))
/-- MendBench$Search.keep(III)V -/
def jm_130 (Q : Nat) (a0 : Int) (a1 : Int) (a2 : Int) (S : ev_St) : Option ((Unit) × ev_St) := ev_b (S.1 281 9) fun x1 => ev_ck (6 * x1) fun x2 => ev_b (S.1 281 9) fun x3 => if x3 < 0 then (some ((), S)) else (ev_ck (x2 + 6) fun x5 => ev_b (ev_aln 283 : Int) fun x6 => if x5 ≤ x6 then (ev_if ((0 : Int) ≤ x2 ∧ x2 < (ev_aln 283 : Int)) (ev_b (ev_pI S 283 (Int.toNat x2) a0) fun s8 => ev_ck (x2 + 1) fun x9 => ev_if ((0 : Int) ≤ x9 ∧ x9 < (ev_aln 283 : Int)) (ev_b (ev_pI s8 283 (Int.toNat x9) a1) fun s10 => ev_ck (x2 + 2) fun x11 => ev_b (s10.1 281 3) fun x12 => ev_if ((0 : Int) ≤ x11 ∧ x11 < (ev_aln 283 : Int)) (ev_b (ev_pI s10 283 (Int.toNat x11) x12) fun s13 => ev_ck (x2 + 3) fun x14 => ev_if ((0 : Int) ≤ x14 ∧ x14 < (ev_aln 283 : Int)) (ev_b (ev_pI s13 283 (Int.toNat x14) a2) fun s15 => ev_ck (x2 + 4) fun x16 => ev_b (s15.1 281 5) fun x17 => ev_if ((0 : Int) ≤ x16 ∧ x16 < (ev_aln 283 : Int)) (ev_b (ev_pI s15 283 (Int.toNat x16) x17) fun s18 => ev_ck (x2 + 5) fun x19 => ev_b (s18.1 281 7) fun x20 => ev_if ((0 : Int) ≤ x19 ∧ x19 < (ev_aln 283 : Int)) (ev_b (ev_pI s18 283 (Int.toNat x19) x20) fun s21 => ev_b (s21.1 281 9) fun x22 => ev_ck (x22 + 1) fun x23 => ev_b (ev_pI s21 281 9 x23) fun s24 => some ((), s24)))))))) else (some ((), S)))
theorem jt_130 (d : Nat) (hd : 1 ≤ d) (Q : Nat) (a0 : Int) (a1 : Int) (a2 : Int) (ha0 : ev_rng a0) (ha1 : ev_rng a1) (ha2 : ev_rng a2) (S : ev_St) (x : Unit) (S' : ev_St) (hJ : jm_130 Q a0 a1 a2 S = some (x, S')) : ev_Ref d 130 [.ref 281, .int (Int32.ofInt a0), .int (Int32.ofInt a1), .int (Int32.ofInt a2)] S (ev_eU x) S' (ev_PU x) := by
  obtain ⟨d, rfl⟩ : ∃ e, d = e + 1 := ⟨d - 1, by omega⟩
  refine ev_ref_of (P := ev_PU) (lv := [(0, .ref 281), (1, .int (Int32.ofInt a0)), (2, .int (Int32.ofInt a1)), (3, .int (Int32.ofInt a2))]) (by decide +kernel) (by (try simp only [ev_sum, ev_nv_cat]); first | done | rfl) (by (try simp only [lv_args, ev_nv_cat]); first | done | rfl) ?_ x S' hJ
  unfold jm_130
  refine ev_r_bipush (pc := 0) (k := 6) (by decide +kernel) (by decide +kernel) ?_
  refine ev_r_aload_n (pc := 2) (k := 0) (v := .ref 281) trivial (by decide +kernel) (by rfl) ?_
  refine ev_r_getI (pc := 3) (y := 82) (ci := 8) (f := 9) (fin := 0) (by decide +kernel) (by decide +kernel) (by exact ev_ob_281) rfl ?_
  intro x1 hx1
  refine ev_r_imul (pc := 6) (by decide +kernel) ?_
  intro x2 hx2
  refine ev_r_istore (pc := 7) (k := 4) (by decide +kernel) (by decide +kernel) rfl ?_
  refine ev_r_aload_n (pc := 9) (k := 0) (v := .ref 281) trivial (by decide +kernel) (by exact (ev_l1 (by rfl) (by decide) (by decide))) ?_
  refine ev_r_getI (pc := 10) (y := 82) (ci := 8) (f := 9) (fin := 0) (by decide +kernel) (by decide +kernel) (by exact ev_ob_281) rfl ?_
  intro x3 hx3
  refine ev_r_if (pc := 13) (q := .lt) (o := 16) (t := 29) (c := x3 < 0) (by decide +kernel) (ev_k_lt hx3 ev_rng0) (by decide +kernel) ?_ ?_
  · intro c4
    exact ev_r_return (pc := 29) (x := ()) trivial (by decide +kernel) (by decide +kernel) rfl
  · intro c4
    refine ev_r_iload (pc := 16) (k := 4) (v := Int32.ofInt x2) (by decide +kernel) (by exact ev_lk_st1_self) ?_
    refine ev_r_bipush (pc := 18) (k := 6) (by decide +kernel) (by decide +kernel) ?_
    refine ev_r_iadd (pc := 20) (by decide +kernel) ?_
    intro x5 hx5
    refine ev_r_aload_n (pc := 21) (k := 0) (v := .ref 281) trivial (by decide +kernel) (by exact (ev_l1 (by rfl) (by decide) (by decide))) ?_
    refine ev_r_getC (pc := 22) (y := 18) (ci := 8) (f := 8) (fin := 1) (k' := 283) (by decide +kernel) (by decide +kernel) (by exact ev_ob_281) rfl rfl ?_
    refine ev_r_alen (pc := 25) (kd := 1) (ty := .int) (Or.inl rfl) (by decide +kernel) (by exact ev_ab_283) ?_
    intro x6 hx6
    refine ev_r_icmp (pc := 26) (q := .le) (o := 4) (t := 30) (c := x5 ≤ x6) (by decide +kernel) (ev_k_le hx5 hx6) (by decide +kernel) ?_ ?_
    · intro c7
      refine ev_r_aload_n (pc := 30) (k := 0) (v := .ref 281) trivial (by decide +kernel) (by exact (ev_l1 (by rfl) (by decide) (by decide))) ?_
      refine ev_r_getC (pc := 31) (y := 18) (ci := 8) (f := 8) (fin := 1) (k' := 283) (by decide +kernel) (by decide +kernel) (by exact ev_ob_281) rfl rfl ?_
      refine ev_r_iload (pc := 34) (k := 4) (v := Int32.ofInt x2) (by decide +kernel) (by exact ev_lk_st1_self) ?_
      refine ev_r_iload_n (pc := 36) (k := 1) (v := Int32.ofInt a0) (by decide +kernel) (by exact (ev_l1 (by rfl) (by decide) (by decide))) ?_
      refine ev_r_iast (pc := 37) ha0 hx2 (by decide +kernel) (by exact ev_ab_283) ?_
      intro s8
      refine ev_r_aload_n (pc := 38) (k := 0) (v := .ref 281) trivial (by decide +kernel) (by exact (ev_l1 (by rfl) (by decide) (by decide))) ?_
      refine ev_r_getC (pc := 39) (y := 18) (ci := 8) (f := 8) (fin := 1) (k' := 283) (by decide +kernel) (by decide +kernel) (by exact ev_ob_281) rfl rfl ?_
      refine ev_r_iload (pc := 42) (k := 4) (v := Int32.ofInt x2) (by decide +kernel) (by exact ev_lk_st1_self) ?_
      refine ev_r_iconst (pc := 44) (k := 1) (by decide +kernel) ?_
      refine ev_r_iadd (pc := 45) (by decide +kernel) ?_
      intro x9 hx9
      refine ev_r_iload_n (pc := 46) (k := 2) (v := Int32.ofInt a1) (by decide +kernel) (by exact (ev_l1 (by rfl) (by decide) (by decide))) ?_
      refine ev_r_iast (pc := 47) ha1 hx9 (by decide +kernel) (by exact ev_ab_283) ?_
      intro s10
      refine ev_r_aload_n (pc := 48) (k := 0) (v := .ref 281) trivial (by decide +kernel) (by exact (ev_l1 (by rfl) (by decide) (by decide))) ?_
      refine ev_r_getC (pc := 49) (y := 18) (ci := 8) (f := 8) (fin := 1) (k' := 283) (by decide +kernel) (by decide +kernel) (by exact ev_ob_281) rfl rfl ?_
      refine ev_r_iload (pc := 52) (k := 4) (v := Int32.ofInt x2) (by decide +kernel) (by exact ev_lk_st1_self) ?_
      refine ev_r_iconst (pc := 54) (k := 2) (by decide +kernel) ?_
      refine ev_r_iadd (pc := 55) (by decide +kernel) ?_
      intro x11 hx11
      refine ev_r_aload_n (pc := 56) (k := 0) (v := .ref 281) trivial (by decide +kernel) (by exact (ev_l1 (by rfl) (by decide) (by decide))) ?_
      refine ev_r_getI (pc := 57) (y := 70) (ci := 8) (f := 3) (fin := 0) (by decide +kernel) (by decide +kernel) (by exact ev_ob_281) rfl ?_
      intro x12 hx12
      refine ev_r_iast (pc := 60) hx12 hx11 (by decide +kernel) (by exact ev_ab_283) ?_
      intro s13
      refine ev_r_aload_n (pc := 61) (k := 0) (v := .ref 281) trivial (by decide +kernel) (by exact (ev_l1 (by rfl) (by decide) (by decide))) ?_
      refine ev_r_getC (pc := 62) (y := 18) (ci := 8) (f := 8) (fin := 1) (k' := 283) (by decide +kernel) (by decide +kernel) (by exact ev_ob_281) rfl rfl ?_
      refine ev_r_iload (pc := 65) (k := 4) (v := Int32.ofInt x2) (by decide +kernel) (by exact ev_lk_st1_self) ?_
      refine ev_r_iconst (pc := 67) (k := 3) (by decide +kernel) ?_
      refine ev_r_iadd (pc := 68) (by decide +kernel) ?_
      intro x14 hx14
      refine ev_r_iload_n (pc := 69) (k := 3) (v := Int32.ofInt a2) (by decide +kernel) (by exact (ev_lk_st1 (by rfl) (by decide) rfl)) ?_
      refine ev_r_iast (pc := 70) ha2 hx14 (by decide +kernel) (by exact ev_ab_283) ?_
      intro s15
      refine ev_r_aload_n (pc := 71) (k := 0) (v := .ref 281) trivial (by decide +kernel) (by exact (ev_l1 (by rfl) (by decide) (by decide))) ?_
      refine ev_r_getC (pc := 72) (y := 18) (ci := 8) (f := 8) (fin := 1) (k' := 283) (by decide +kernel) (by decide +kernel) (by exact ev_ob_281) rfl rfl ?_
      refine ev_r_iload (pc := 75) (k := 4) (v := Int32.ofInt x2) (by decide +kernel) (by exact ev_lk_st1_self) ?_
      refine ev_r_iconst (pc := 77) (k := 4) (by decide +kernel) ?_
      refine ev_r_iadd (pc := 78) (by decide +kernel) ?_
      intro x16 hx16
      refine ev_r_aload_n (pc := 79) (k := 0) (v := .ref 281) trivial (by decide +kernel) (by exact (ev_l1 (by rfl) (by decide) (by decide))) ?_
      refine ev_r_getI (pc := 80) (y := 76) (ci := 8) (f := 5) (fin := 0) (by decide +kernel) (by decide +kernel) (by exact ev_ob_281) rfl ?_
      intro x17 hx17
      refine ev_r_iast (pc := 83) hx17 hx16 (by decide +kernel) (by exact ev_ab_283) ?_
      intro s18
      refine ev_r_aload_n (pc := 84) (k := 0) (v := .ref 281) trivial (by decide +kernel) (by exact (ev_l1 (by rfl) (by decide) (by decide))) ?_
      refine ev_r_getC (pc := 85) (y := 18) (ci := 8) (f := 8) (fin := 1) (k' := 283) (by decide +kernel) (by decide +kernel) (by exact ev_ob_281) rfl rfl ?_
      refine ev_r_iload (pc := 88) (k := 4) (v := Int32.ofInt x2) (by decide +kernel) (by exact ev_lk_st1_self) ?_
      refine ev_r_iconst (pc := 90) (k := 5) (by decide +kernel) ?_
      refine ev_r_iadd (pc := 91) (by decide +kernel) ?_
      intro x19 hx19
      refine ev_r_aload_n (pc := 92) (k := 0) (v := .ref 281) trivial (by decide +kernel) (by exact (ev_l1 (by rfl) (by decide) (by decide))) ?_
      refine ev_r_getI (pc := 93) (y := 79) (ci := 8) (f := 7) (fin := 0) (by decide +kernel) (by decide +kernel) (by exact ev_ob_281) rfl ?_
      intro x20 hx20
      refine ev_r_iast (pc := 96) hx20 hx19 (by decide +kernel) (by exact ev_ab_283) ?_
      intro s21
      refine ev_r_aload_n (pc := 97) (k := 0) (v := .ref 281) trivial (by decide +kernel) (by exact (ev_l1 (by rfl) (by decide) (by decide))) ?_
      refine ev_r_dup (pc := 98) rfl (by decide +kernel) ?_
      refine ev_r_getI (pc := 99) (y := 82) (ci := 8) (f := 9) (fin := 0) (by decide +kernel) (by decide +kernel) (by exact ev_ob_281) rfl ?_
      intro x22 hx22
      refine ev_r_iconst (pc := 102) (k := 1) (by decide +kernel) ?_
      refine ev_r_iadd (pc := 103) (by decide +kernel) ?_
      intro x23 hx23
      refine ev_r_putI (pc := 104) (y := 82) (ci := 8) (f := 9) hx23 (by decide +kernel) (by decide +kernel) (by exact ev_ob_281) rfl rfl ?_
      intro s24
      exact ev_r_return (pc := 107) (x := ()) trivial (by decide +kernel) (by decide +kernel) rfl
    · intro c7
      exact ev_r_return (pc := 29) (x := ()) trivial (by decide +kernel) (by decide +kernel) rfl
/-- MendBench$Search.goRound(I)Z -/
def jm_143 (Q : Nat) (a0 : Int) (S : ev_St) : Option ((Int) × ev_St) := ev_b (S.1 281 4) fun x1 => ev_bd (jm_126 Q x1 S) fun x3 s2 => if x3 ≠ 0 then (ev_b (s2.1 281 4) fun x5 => ev_ck (x5 + 2) fun x6 => ev_if ((0 : Int) ≤ x6 ∧ x6 < (ev_aln 282 : Int)) (ev_b (s2.1 282 (Int.toNat x6)) fun x7 => ev_b (s2.1 281 4) fun x8 => ev_if ((0 : Int) ≤ x8 ∧ x8 < (ev_aln 282 : Int)) (ev_b (s2.1 282 (Int.toNat x8)) fun x9 => ev_b (s2.2.2.1 281 0) fun r10 => ev_if (r10 ≠ 0) (ev_if ((0 : Int) ≤ a0 ∧ a0 < (ev_aln (((r10 - 1) + 3)) : Int)) (ev_b (s2.1 (((r10 - 1) + 3)) (Int.toNat a0)) fun x12 => ev_b (s2.2.2.1 281 0) fun r13 => ev_if (r13 ≠ 0) (ev_if ((0 : Int) ≤ a0 ∧ a0 < (ev_aln (((r13 - 1) + 2)) : Int)) (ev_b (s2.1 (((r13 - 1) + 2)) (Int.toNat a0)) fun x15 => if x15 ≤ x7 then (ev_jn (fun  (s21 : ev_St) => ev_b (s21.2.2.1 281 0) fun r22 => ev_if (r22 ≠ 0) (ev_if ((0 : Int) ≤ a0 ∧ a0 < (ev_aln (((r22 - 1) + 1)) : Int)) (ev_b (s21.1 (((r22 - 1) + 1)) (Int.toNat a0)) fun x24 => if x24 ≠ 13 then (ev_ck (4 * a0) fun x26 => ev_ck (x26 + 2) fun x27 => ev_b (s21.1 281 4) fun x28 => ev_bd (jm_130 Q 0 x27 x28 s21) fun _ s29 => ev_b (ev_pI s29 281 4 x9) fun s30 => ev_b (s30.2.2.1 281 0) fun r31 => ev_if (r31 ≠ 0) (ev_if ((0 : Int) ≤ a0 ∧ a0 < (ev_aln (((r31 - 1) + 7)) : Int)) (ev_b (s30.1 (((r31 - 1) + 7)) (Int.toNat a0)) fun x33 => ev_b (ev_pI s30 281 2 x33) fun s34 => some (1, s34)))) else (ev_b (s21.2.2.1 281 0) fun r35 => ev_if (r35 ≠ 0) (ev_if ((0 : Int) ≤ a0 ∧ a0 < (ev_aln (((r35 - 1) + 7)) : Int)) (ev_b (s21.1 (((r35 - 1) + 7)) (Int.toNat a0)) fun x37 => ev_bd (jm_130 Q 0 x37 x9 s21) fun _ s38 => ev_ck (4 * a0) fun x39 => ev_ck (x39 + 2) fun x40 => ev_b (ev_pI s38 281 2 x40) fun s41 => some (1, s41))))))) fun K104 => if x12 = (-1) then (K104  s2) else (if x7 < x12 then (K104  s2) else (ev_b (ev_pI s2 281 4 x9) fun s44 => ev_b (s44.2.2.1 281 0) fun r45 => ev_if (r45 ≠ 0) (ev_if ((0 : Int) ≤ a0 ∧ a0 < (ev_aln (((r45 - 1) + 7)) : Int)) (ev_b (s44.1 (((r45 - 1) + 7)) (Int.toNat a0)) fun x47 => ev_b (ev_pI s44 281 2 x47) fun s48 => some (1, s48)))))) else (ev_ck (4 * a0) fun x49 => ev_ck (x49 + 2) fun x50 => ev_b (ev_pI s2 281 2 x50) fun s51 => some (1, s51))))))))) else (some (0, s2))
theorem jt_143 (d : Nat) (hd : 2 ≤ d) (Q : Nat) (a0 : Int) (ha0 : ev_rng a0) (S : ev_St) (x : Int) (S' : ev_St) (hJ : jm_143 Q a0 S = some (x, S')) : ev_Ref d 143 [.ref 281, .int (Int32.ofInt a0)] S (ev_eI x) S' (ev_bl x) := by
  obtain ⟨d, rfl⟩ : ∃ e, d = e + 1 := ⟨d - 1, by omega⟩
  refine ev_ref_of (P := ev_bl) (lv := [(0, .ref 281), (1, .int (Int32.ofInt a0))]) (by decide +kernel) (by (try simp only [ev_sum, ev_nv_cat]); first | done | rfl) (by (try simp only [lv_args, ev_nv_cat]); first | done | rfl) ?_ x S' hJ
  unfold jm_143
  refine ev_r_aload_n (pc := 0) (k := 0) (v := .ref 281) trivial (by decide +kernel) (by rfl) ?_
  refine ev_r_aload_n (pc := 1) (k := 0) (v := .ref 281) trivial (by decide +kernel) (by rfl) ?_
  refine ev_r_getI (pc := 2) (y := 73) (ci := 8) (f := 4) (fin := 0) (by decide +kernel) (by decide +kernel) (by exact ev_ob_281) rfl ?_
  intro x1 hx1
  refine ev_r_virt (pc := 5) (y := 112) (mi := 126) (na := 1) (k := 281) (as := [.int (Int32.ofInt x1)]) (rest := []) (encc := ev_oI) (Q := ev_bl) (fun x S1 h => jt_126 d (by omega) Q x1 hx1 S x S1 h) (by exact ev_ob_281) (by decide +kernel) (by decide +kernel) (by decide +kernel) (by decide +kernel) rfl (by (try simp only [ev_sum, ev_nv_cat]); first | done | rfl) ?_
  intro x3 s2 hx3
  replace hx3 := ev_bl_rng hx3
  show ev_w _ _ _ _ _ [.int (Int32.ofInt x3)] _ _ _ _
  refine ev_r_if (pc := 8) (q := .ne) (o := 5) (t := 13) (c := x3 ≠ 0) (by decide +kernel) (ev_k_ne hx3 ev_rng0) (by decide +kernel) ?_ ?_
  · intro c4
    refine ev_r_aload_n (pc := 13) (k := 0) (v := .ref 281) trivial (by decide +kernel) (by rfl) ?_
    refine ev_r_getC (pc := 14) (y := 14) (ci := 8) (f := 6) (fin := 1) (k' := 282) (by decide +kernel) (by decide +kernel) (by exact ev_ob_281) rfl rfl ?_
    refine ev_r_aload_n (pc := 17) (k := 0) (v := .ref 281) trivial (by decide +kernel) (by rfl) ?_
    refine ev_r_getI (pc := 18) (y := 73) (ci := 8) (f := 4) (fin := 0) (by decide +kernel) (by decide +kernel) (by exact ev_ob_281) rfl ?_
    intro x5 hx5
    refine ev_r_iconst (pc := 21) (k := 2) (by decide +kernel) ?_
    refine ev_r_iadd (pc := 22) (by decide +kernel) ?_
    intro x6 hx6
    refine ev_r_iald (pc := 23) hx6 (by decide +kernel) (by exact ev_ab_282) ?_
    intro x7 hx7
    refine ev_r_istore_n (pc := 24) (k := 2) (by decide +kernel) (by decide +kernel) rfl ?_
    refine ev_r_aload_n (pc := 25) (k := 0) (v := .ref 281) trivial (by decide +kernel) (by exact (ev_l1 (by rfl) (by decide) (by decide))) ?_
    refine ev_r_getC (pc := 26) (y := 14) (ci := 8) (f := 6) (fin := 1) (k' := 282) (by decide +kernel) (by decide +kernel) (by exact ev_ob_281) rfl rfl ?_
    refine ev_r_aload_n (pc := 29) (k := 0) (v := .ref 281) trivial (by decide +kernel) (by exact (ev_l1 (by rfl) (by decide) (by decide))) ?_
    refine ev_r_getI (pc := 30) (y := 73) (ci := 8) (f := 4) (fin := 0) (by decide +kernel) (by decide +kernel) (by exact ev_ob_281) rfl ?_
    intro x8 hx8
    refine ev_r_iald (pc := 33) hx8 (by decide +kernel) (by exact ev_ab_282) ?_
    intro x9 hx9
    refine ev_r_istore_n (pc := 34) (k := 3) (by decide +kernel) (by decide +kernel) rfl ?_
    refine ev_r_aload_n (pc := 35) (k := 0) (v := .ref 281) trivial (by decide +kernel) (by exact (ev_l1 (ev_l1 (by rfl) (by decide) (by decide)) (by decide) (by decide))) ?_
    refine ev_r_getR (pc := 36) (y := 58) (ci := 8) (f := 0) (fin := 0) (t := 5) (by decide +kernel) (by decide +kernel) (by exact ev_ob_281) rfl rfl ?_
    intro r10 hr10
    have hr10 : r10 = 0 ∨ ev_isOb (r10 - 1) 5 = true := hr10
    refine ev_r_chk ?_
    intro c11
    refine ev_r_dr (r := r10) (fun v => [v]) c11 ?_
    refine ev_r_getC (pc := 39) (y := 187) (ci := 5) (f := 2) (fin := 2) (k' := ((r10 - 1) + 3)) (by decide +kernel) (by decide +kernel) (by exact (hr10.resolve_left c11)) rfl rfl ?_
    refine ev_r_iload_n (pc := 42) (k := 1) (v := Int32.ofInt a0) (by decide +kernel) (by exact (ev_l1 (ev_lk_st1 (by rfl) (by decide) rfl) (by decide) (by decide))) ?_
    refine ev_r_iald (pc := 43) ha0 (by decide +kernel) (by exact (ev_fo_5_2 (hr10.resolve_left c11))) ?_
    intro x12 hx12
    refine ev_r_istore (pc := 44) (k := 4) (by decide +kernel) (by decide +kernel) rfl ?_
    refine ev_r_iload_n (pc := 46) (k := 2) (v := Int32.ofInt x7) (by decide +kernel) (by exact (ev_l1 (ev_lk_st1 ev_lk_st1_self (by decide) rfl) (by decide) (by decide))) ?_
    refine ev_r_aload_n (pc := 47) (k := 0) (v := .ref 281) trivial (by decide +kernel) (by exact (ev_l1 (ev_l1 (ev_l1 (by rfl) (by decide) (by decide)) (by decide) (by decide)) (by decide) (by decide))) ?_
    refine ev_r_getR (pc := 48) (y := 58) (ci := 8) (f := 0) (fin := 0) (t := 5) (by decide +kernel) (by decide +kernel) (by exact ev_ob_281) rfl rfl ?_
    intro r13 hr13
    have hr13 : r13 = 0 ∨ ev_isOb (r13 - 1) 5 = true := hr13
    refine ev_r_chk ?_
    intro c14
    refine ev_r_dr (r := r13) (fun v => [v, .int (Int32.ofInt x7)]) c14 ?_
    refine ev_r_getC (pc := 51) (y := 184) (ci := 5) (f := 1) (fin := 2) (k' := ((r13 - 1) + 2)) (by decide +kernel) (by decide +kernel) (by exact (hr13.resolve_left c14)) rfl rfl ?_
    refine ev_r_iload_n (pc := 54) (k := 1) (v := Int32.ofInt a0) (by decide +kernel) (by exact (ev_l1 (ev_l1 (ev_lk_st1 (by rfl) (by decide) rfl) (by decide) (by decide)) (by decide) (by decide))) ?_
    refine ev_r_iald (pc := 55) ha0 (by decide +kernel) (by exact (ev_fo_5_1 (hr13.resolve_left c14))) ?_
    intro x15 hx15
    refine ev_r_icmp (pc := 56) (q := .ge) (o := 15) (t := 71) (c := x15 ≤ x7) (by decide +kernel) (ev_k_ge hx7 hx15) (by decide +kernel) ?_ ?_
    · intro c16
      refine ev_r_iload (pc := 71) (k := 4) (v := Int32.ofInt x12) (by decide +kernel) (by exact ev_lk_st1_self) ?_
      refine ev_r_iconst (pc := 73) (k := -1) (by decide +kernel) ?_
      refine ev_r_jn (Q := fun K => ∀ (s21 : ev_St) (w17 : List (Nat × Value)), ev_lk w17 0 = some (.ref 281) → ev_lk w17 1 = some (.int (Int32.ofInt a0)) → ev_lk w17 3 = some (.int (Int32.ofInt x9)) → ev_w none (ev_Mof 143) d 104 w17 [] s21 (K  s21) ev_eI ev_bl) ?_ ?_
      · intro  s21 w17 e18 e19 e20
        refine ev_r_aload_n (pc := 104) (k := 0) (v := .ref 281) trivial (by decide +kernel) (by exact e18) ?_
        refine ev_r_getR (pc := 105) (y := 58) (ci := 8) (f := 0) (fin := 0) (t := 5) (by decide +kernel) (by decide +kernel) (by exact ev_ob_281) rfl rfl ?_
        intro r22 hr22
        have hr22 : r22 = 0 ∨ ev_isOb (r22 - 1) 5 = true := hr22
        refine ev_r_chk ?_
        intro c23
        refine ev_r_dr (r := r22) (fun v => [v]) c23 ?_
        refine ev_r_getC (pc := 108) (y := 132) (ci := 5) (f := 0) (fin := 2) (k' := ((r22 - 1) + 1)) (by decide +kernel) (by decide +kernel) (by exact (hr22.resolve_left c23)) rfl rfl ?_
        refine ev_r_iload_n (pc := 111) (k := 1) (v := Int32.ofInt a0) (by decide +kernel) (by exact e19) ?_
        refine ev_r_iald (pc := 112) ha0 (by decide +kernel) (by exact (ev_fo_5_0 (hr22.resolve_left c23))) ?_
        intro x24 hx24
        refine ev_r_bipush (pc := 113) (k := 13) (by decide +kernel) (by decide +kernel) ?_
        refine ev_r_icmp (pc := 115) (q := .ne) (o := 30) (t := 145) (c := x24 ≠ 13) (by decide +kernel) (ev_k_ne hx24 (by decide)) (by decide +kernel) ?_ ?_
        · intro c25
          refine ev_r_aload_n (pc := 145) (k := 0) (v := .ref 281) trivial (by decide +kernel) (by exact e18) ?_
          refine ev_r_iconst (pc := 146) (k := 0) (by decide +kernel) ?_
          refine ev_r_iconst (pc := 147) (k := 4) (by decide +kernel) ?_
          refine ev_r_iload_n (pc := 148) (k := 1) (v := Int32.ofInt a0) (by decide +kernel) (by exact e19) ?_
          refine ev_r_imul (pc := 149) (by decide +kernel) ?_
          intro x26 hx26
          refine ev_r_iconst (pc := 150) (k := 2) (by decide +kernel) ?_
          refine ev_r_iadd (pc := 151) (by decide +kernel) ?_
          intro x27 hx27
          refine ev_r_aload_n (pc := 152) (k := 0) (v := .ref 281) trivial (by decide +kernel) (by exact e18) ?_
          refine ev_r_getI (pc := 153) (y := 73) (ci := 8) (f := 4) (fin := 0) (by decide +kernel) (by decide +kernel) (by exact ev_ob_281) rfl ?_
          intro x28 hx28
          refine ev_r_virt (pc := 156) (y := 172) (mi := 130) (na := 3) (k := 281) (as := [.int (Int32.ofInt 0), .int (Int32.ofInt x27), .int (Int32.ofInt x28)]) (rest := []) (encc := ev_oU) (Q := ev_PU) (fun x S1 h => jt_130 d (by omega) Q 0 x27 x28 (by decide) hx27 hx28 s21 x S1 h) (by exact ev_ob_281) (by decide +kernel) (by decide +kernel) (by decide +kernel) (by decide +kernel) rfl (by (try simp only [ev_sum, ev_nv_cat]); first | done | rfl) ?_
          intro _ s29 _
          show ev_w _ _ _ _ _ [] _ _ _ _
          refine ev_r_aload_n (pc := 159) (k := 0) (v := .ref 281) trivial (by decide +kernel) (by exact e18) ?_
          refine ev_r_iload_n (pc := 160) (k := 3) (v := Int32.ofInt x9) (by decide +kernel) (by exact e20) ?_
          refine ev_r_putI (pc := 161) (y := 73) (ci := 8) (f := 4) hx9 (by decide +kernel) (by decide +kernel) (by exact ev_ob_281) rfl rfl ?_
          intro s30
          refine ev_r_aload_n (pc := 164) (k := 0) (v := .ref 281) trivial (by decide +kernel) (by exact e18) ?_
          refine ev_r_aload_n (pc := 165) (k := 0) (v := .ref 281) trivial (by decide +kernel) (by exact e18) ?_
          refine ev_r_getR (pc := 166) (y := 58) (ci := 8) (f := 0) (fin := 0) (t := 5) (by decide +kernel) (by decide +kernel) (by exact ev_ob_281) rfl rfl ?_
          intro r31 hr31
          have hr31 : r31 = 0 ∨ ev_isOb (r31 - 1) 5 = true := hr31
          refine ev_r_chk ?_
          intro c32
          refine ev_r_dr (r := r31) (fun v => [v, .ref 281]) c32 ?_
          refine ev_r_getC (pc := 169) (y := 139) (ci := 5) (f := 6) (fin := 2) (k' := ((r31 - 1) + 7)) (by decide +kernel) (by decide +kernel) (by exact (hr31.resolve_left c32)) rfl rfl ?_
          refine ev_r_iload_n (pc := 172) (k := 1) (v := Int32.ofInt a0) (by decide +kernel) (by exact e19) ?_
          refine ev_r_iald (pc := 173) ha0 (by decide +kernel) (by exact (ev_fo_5_6 (hr31.resolve_left c32))) ?_
          intro x33 hx33
          refine ev_r_putI (pc := 174) (y := 96) (ci := 8) (f := 2) hx33 (by decide +kernel) (by decide +kernel) (by exact ev_ob_281) rfl rfl ?_
          intro s34
          refine ev_r_iconst (pc := 177) (k := 1) (by decide +kernel) ?_
          exact ev_r_ireturn (pc := 178) (x := 1) (v := Int32.ofInt 1) (ty := .boolean) (by decide : ev_bl 1) (by decide +kernel) (by decide +kernel) (ev_ret_bl (by decide : ev_bl 1)) rfl
        · intro c25
          refine ev_r_aload_n (pc := 118) (k := 0) (v := .ref 281) trivial (by decide +kernel) (by exact e18) ?_
          refine ev_r_iconst (pc := 119) (k := 0) (by decide +kernel) ?_
          refine ev_r_aload_n (pc := 120) (k := 0) (v := .ref 281) trivial (by decide +kernel) (by exact e18) ?_
          refine ev_r_getR (pc := 121) (y := 58) (ci := 8) (f := 0) (fin := 0) (t := 5) (by decide +kernel) (by decide +kernel) (by exact ev_ob_281) rfl rfl ?_
          intro r35 hr35
          have hr35 : r35 = 0 ∨ ev_isOb (r35 - 1) 5 = true := hr35
          refine ev_r_chk ?_
          intro c36
          refine ev_r_dr (r := r35) (fun v => [v, .int (Int32.ofInt 0), .ref 281]) c36 ?_
          refine ev_r_getC (pc := 124) (y := 139) (ci := 5) (f := 6) (fin := 2) (k' := ((r35 - 1) + 7)) (by decide +kernel) (by decide +kernel) (by exact (hr35.resolve_left c36)) rfl rfl ?_
          refine ev_r_iload_n (pc := 127) (k := 1) (v := Int32.ofInt a0) (by decide +kernel) (by exact e19) ?_
          refine ev_r_iald (pc := 128) ha0 (by decide +kernel) (by exact (ev_fo_5_6 (hr35.resolve_left c36))) ?_
          intro x37 hx37
          refine ev_r_iload_n (pc := 129) (k := 3) (v := Int32.ofInt x9) (by decide +kernel) (by exact e20) ?_
          refine ev_r_virt (pc := 130) (y := 172) (mi := 130) (na := 3) (k := 281) (as := [.int (Int32.ofInt 0), .int (Int32.ofInt x37), .int (Int32.ofInt x9)]) (rest := []) (encc := ev_oU) (Q := ev_PU) (fun x S1 h => jt_130 d (by omega) Q 0 x37 x9 (by decide) hx37 hx9 s21 x S1 h) (by exact ev_ob_281) (by decide +kernel) (by decide +kernel) (by decide +kernel) (by decide +kernel) rfl (by (try simp only [ev_sum, ev_nv_cat]); first | done | rfl) ?_
          intro _ s38 _
          show ev_w _ _ _ _ _ [] _ _ _ _
          refine ev_r_aload_n (pc := 133) (k := 0) (v := .ref 281) trivial (by decide +kernel) (by exact e18) ?_
          refine ev_r_iconst (pc := 134) (k := 4) (by decide +kernel) ?_
          refine ev_r_iload_n (pc := 135) (k := 1) (v := Int32.ofInt a0) (by decide +kernel) (by exact e19) ?_
          refine ev_r_imul (pc := 136) (by decide +kernel) ?_
          intro x39 hx39
          refine ev_r_iconst (pc := 137) (k := 2) (by decide +kernel) ?_
          refine ev_r_iadd (pc := 138) (by decide +kernel) ?_
          intro x40 hx40
          refine ev_r_putI (pc := 139) (y := 96) (ci := 8) (f := 2) hx40 (by decide +kernel) (by decide +kernel) (by exact ev_ob_281) rfl rfl ?_
          intro s41
          refine ev_r_goto (pc := 142) (o := 35) (t := 177) (by decide +kernel) (by decide +kernel) ?_
          refine ev_r_iconst (pc := 177) (k := 1) (by decide +kernel) ?_
          exact ev_r_ireturn (pc := 178) (x := 1) (v := Int32.ofInt 1) (ty := .boolean) (by decide : ev_bl 1) (by decide +kernel) (by decide +kernel) (ev_ret_bl (by decide : ev_bl 1)) rfl
      · intro K104 hK104
        refine ev_r_icmp (pc := 74) (q := .eq) (o := 30) (t := 104) (c := x12 = (-1)) (by decide +kernel) (ev_k_eq hx12 (by decide)) (by decide +kernel) ?_ ?_
        · intro c42
          exact hK104  s2 _ (by exact (ev_l1 (ev_l1 (ev_l1 (by rfl) (by decide) (by decide)) (by decide) (by decide)) (by decide) (by decide))) (by exact (ev_l1 (ev_l1 (ev_lk_st1 (by rfl) (by decide) rfl) (by decide) (by decide)) (by decide) (by decide))) (by exact (ev_lk_st1 ev_lk_st1_self (by decide) rfl))
        · intro c42
          refine ev_r_iload_n (pc := 77) (k := 2) (v := Int32.ofInt x7) (by decide +kernel) (by exact (ev_l1 (ev_lk_st1 ev_lk_st1_self (by decide) rfl) (by decide) (by decide))) ?_
          refine ev_r_iload (pc := 78) (k := 4) (v := Int32.ofInt x12) (by decide +kernel) (by exact ev_lk_st1_self) ?_
          refine ev_r_icmp (pc := 80) (q := .lt) (o := 24) (t := 104) (c := x7 < x12) (by decide +kernel) (ev_k_lt hx7 hx12) (by decide +kernel) ?_ ?_
          · intro c43
            exact hK104  s2 _ (by exact (ev_l1 (ev_l1 (ev_l1 (by rfl) (by decide) (by decide)) (by decide) (by decide)) (by decide) (by decide))) (by exact (ev_l1 (ev_l1 (ev_lk_st1 (by rfl) (by decide) rfl) (by decide) (by decide)) (by decide) (by decide))) (by exact (ev_lk_st1 ev_lk_st1_self (by decide) rfl))
          · intro c43
            refine ev_r_aload_n (pc := 83) (k := 0) (v := .ref 281) trivial (by decide +kernel) (by exact (ev_l1 (ev_l1 (ev_l1 (by rfl) (by decide) (by decide)) (by decide) (by decide)) (by decide) (by decide))) ?_
            refine ev_r_iload_n (pc := 84) (k := 3) (v := Int32.ofInt x9) (by decide +kernel) (by exact (ev_lk_st1 ev_lk_st1_self (by decide) rfl)) ?_
            refine ev_r_putI (pc := 85) (y := 73) (ci := 8) (f := 4) hx9 (by decide +kernel) (by decide +kernel) (by exact ev_ob_281) rfl rfl ?_
            intro s44
            refine ev_r_aload_n (pc := 88) (k := 0) (v := .ref 281) trivial (by decide +kernel) (by exact (ev_l1 (ev_l1 (ev_l1 (by rfl) (by decide) (by decide)) (by decide) (by decide)) (by decide) (by decide))) ?_
            refine ev_r_aload_n (pc := 89) (k := 0) (v := .ref 281) trivial (by decide +kernel) (by exact (ev_l1 (ev_l1 (ev_l1 (by rfl) (by decide) (by decide)) (by decide) (by decide)) (by decide) (by decide))) ?_
            refine ev_r_getR (pc := 90) (y := 58) (ci := 8) (f := 0) (fin := 0) (t := 5) (by decide +kernel) (by decide +kernel) (by exact ev_ob_281) rfl rfl ?_
            intro r45 hr45
            have hr45 : r45 = 0 ∨ ev_isOb (r45 - 1) 5 = true := hr45
            refine ev_r_chk ?_
            intro c46
            refine ev_r_dr (r := r45) (fun v => [v, .ref 281]) c46 ?_
            refine ev_r_getC (pc := 93) (y := 139) (ci := 5) (f := 6) (fin := 2) (k' := ((r45 - 1) + 7)) (by decide +kernel) (by decide +kernel) (by exact (hr45.resolve_left c46)) rfl rfl ?_
            refine ev_r_iload_n (pc := 96) (k := 1) (v := Int32.ofInt a0) (by decide +kernel) (by exact (ev_l1 (ev_l1 (ev_lk_st1 (by rfl) (by decide) rfl) (by decide) (by decide)) (by decide) (by decide))) ?_
            refine ev_r_iald (pc := 97) ha0 (by decide +kernel) (by exact (ev_fo_5_6 (hr45.resolve_left c46))) ?_
            intro x47 hx47
            refine ev_r_putI (pc := 98) (y := 96) (ci := 8) (f := 2) hx47 (by decide +kernel) (by decide +kernel) (by exact ev_ob_281) rfl rfl ?_
            intro s48
            refine ev_r_goto (pc := 101) (o := 76) (t := 177) (by decide +kernel) (by decide +kernel) ?_
            refine ev_r_iconst (pc := 177) (k := 1) (by decide +kernel) ?_
            exact ev_r_ireturn (pc := 178) (x := 1) (v := Int32.ofInt 1) (ty := .boolean) (by decide : ev_bl 1) (by decide +kernel) (by decide +kernel) (ev_ret_bl (by decide : ev_bl 1)) rfl
    · intro c16
      refine ev_r_aload_n (pc := 59) (k := 0) (v := .ref 281) trivial (by decide +kernel) (by exact (ev_l1 (ev_l1 (ev_l1 (by rfl) (by decide) (by decide)) (by decide) (by decide)) (by decide) (by decide))) ?_
      refine ev_r_iconst (pc := 60) (k := 4) (by decide +kernel) ?_
      refine ev_r_iload_n (pc := 61) (k := 1) (v := Int32.ofInt a0) (by decide +kernel) (by exact (ev_l1 (ev_l1 (ev_lk_st1 (by rfl) (by decide) rfl) (by decide) (by decide)) (by decide) (by decide))) ?_
      refine ev_r_imul (pc := 62) (by decide +kernel) ?_
      intro x49 hx49
      refine ev_r_iconst (pc := 63) (k := 2) (by decide +kernel) ?_
      refine ev_r_iadd (pc := 64) (by decide +kernel) ?_
      intro x50 hx50
      refine ev_r_putI (pc := 65) (y := 96) (ci := 8) (f := 2) hx50 (by decide +kernel) (by decide +kernel) (by exact ev_ob_281) rfl rfl ?_
      intro s51
      refine ev_r_goto (pc := 68) (o := 109) (t := 177) (by decide +kernel) (by decide +kernel) ?_
      refine ev_r_iconst (pc := 177) (k := 1) (by decide +kernel) ?_
      exact ev_r_ireturn (pc := 178) (x := 1) (v := Int32.ofInt 1) (ty := .boolean) (by decide : ev_bl 1) (by decide +kernel) (by decide +kernel) (ev_ret_bl (by decide : ev_bl 1)) rfl
  · intro c4
    refine ev_r_iconst (pc := 11) (k := 0) (by decide +kernel) ?_
    exact ev_r_ireturn (pc := 12) (x := 0) (v := Int32.ofInt 0) (ty := .boolean) (by decide : ev_bl 0) (by decide +kernel) (by decide +kernel) (ev_ret_bl (by decide : ev_bl 0)) rfl
/-- MendBench$Search.looksAround()I -/
def jm_128 (Q : Nat)  (S : ev_St) : Option ((Int) × ev_St) := ev_b (S.1 281 4) fun x1 => ev_bd (jm_126 Q x1 S) fun x3 s2 => if x3 = 0 then (some (0, s2)) else (ev_b (s2.1 281 4) fun x5 => ev_ck (x5 + 1) fun x6 => ev_if ((0 : Int) ≤ x6 ∧ x6 < (ev_aln 282 : Int)) (ev_b (s2.1 282 (Int.toNat x6)) fun x7 => ev_if (256 ≠ 0) (ev_b (ev_idiv x7 256) fun x8 => some (x8, s2))))
theorem jt_128 (d : Nat) (hd : 2 ≤ d) (Q : Nat)   (S : ev_St) (x : Int) (S' : ev_St) (hJ : jm_128 Q  S = some (x, S')) : ev_Ref d 128 [.ref 281] S (ev_eI x) S' (ev_rng x) := by
  obtain ⟨d, rfl⟩ : ∃ e, d = e + 1 := ⟨d - 1, by omega⟩
  refine ev_ref_of (P := ev_rng) (lv := [(0, .ref 281)]) (by decide +kernel) (by (try simp only [ev_sum, ev_nv_cat]); first | done | rfl) (by (try simp only [lv_args, ev_nv_cat]); first | done | rfl) ?_ x S' hJ
  unfold jm_128
  refine ev_r_aload_n (pc := 0) (k := 0) (v := .ref 281) trivial (by decide +kernel) (by rfl) ?_
  refine ev_r_aload_n (pc := 1) (k := 0) (v := .ref 281) trivial (by decide +kernel) (by rfl) ?_
  refine ev_r_getI (pc := 2) (y := 73) (ci := 8) (f := 4) (fin := 0) (by decide +kernel) (by decide +kernel) (by exact ev_ob_281) rfl ?_
  intro x1 hx1
  refine ev_r_virt (pc := 5) (y := 112) (mi := 126) (na := 1) (k := 281) (as := [.int (Int32.ofInt x1)]) (rest := []) (encc := ev_oI) (Q := ev_bl) (fun x S1 h => jt_126 d (by omega) Q x1 hx1 S x S1 h) (by exact ev_ob_281) (by decide +kernel) (by decide +kernel) (by decide +kernel) (by decide +kernel) rfl (by (try simp only [ev_sum, ev_nv_cat]); first | done | rfl) ?_
  intro x3 s2 hx3
  replace hx3 := ev_bl_rng hx3
  show ev_w _ _ _ _ _ [.int (Int32.ofInt x3)] _ _ _ _
  refine ev_r_if (pc := 8) (q := .eq) (o := 21) (t := 29) (c := x3 = 0) (by decide +kernel) (ev_k_eq hx3 ev_rng0) (by decide +kernel) ?_ ?_
  · intro c4
    refine ev_r_iconst (pc := 29) (k := 0) (by decide +kernel) ?_
    exact ev_r_ireturn (pc := 30) (x := 0) (v := Int32.ofInt 0) (ty := .int) (by decide) (by decide +kernel) (by decide +kernel) rfl rfl
  · intro c4
    refine ev_r_aload_n (pc := 11) (k := 0) (v := .ref 281) trivial (by decide +kernel) (by rfl) ?_
    refine ev_r_getC (pc := 12) (y := 14) (ci := 8) (f := 6) (fin := 1) (k' := 282) (by decide +kernel) (by decide +kernel) (by exact ev_ob_281) rfl rfl ?_
    refine ev_r_aload_n (pc := 15) (k := 0) (v := .ref 281) trivial (by decide +kernel) (by rfl) ?_
    refine ev_r_getI (pc := 16) (y := 73) (ci := 8) (f := 4) (fin := 0) (by decide +kernel) (by decide +kernel) (by exact ev_ob_281) rfl ?_
    intro x5 hx5
    refine ev_r_iconst (pc := 19) (k := 1) (by decide +kernel) ?_
    refine ev_r_iadd (pc := 20) (by decide +kernel) ?_
    intro x6 hx6
    refine ev_r_iald (pc := 21) hx6 (by decide +kernel) (by exact ev_ab_282) ?_
    intro x7 hx7
    refine ev_r_sipush (pc := 22) (k := 256) (by decide +kernel) (by decide +kernel) ?_
    refine ev_r_idiv (pc := 25) (by decide) (by decide +kernel) ?_
    intro x8 hx8
    refine ev_r_goto (pc := 26) (o := 4) (t := 30) (by decide +kernel) (by decide +kernel) ?_
    exact ev_r_ireturn (pc := 30) (x := x8) (v := Int32.ofInt x8) (ty := .int) hx8 (by decide +kernel) (by decide +kernel) rfl rfl
/-- MendBench$Search.look(I)Z -/
def jm_140 (Q : Nat) (a0 : Int) (S : ev_St) : Option ((Int) × ev_St) := ev_bd (jm_128 Q  S) fun x2 s1 => if x2 < 40 then (ev_b (s1.1 281 4) fun x4 => ev_b (s1.1 281 3) fun x5 => ev_b (s1.1 281 9) fun x6 => ev_bd (jm_124 Q x4 3 x5 x6 s1) fun x8 s7 => ev_b (ev_pI s7 281 4 x8) fun s9 => ev_ck (4 * a0) fun x10 => ev_b (s9.1 281 4) fun x11 => ev_bd (jm_130 Q 1 x10 x11 s9) fun _ s12 => ev_b (s12.2.2.1 281 0) fun r13 => ev_if (r13 ≠ 0) (ev_if ((0 : Int) ≤ a0 ∧ a0 < (ev_aln (((r13 - 1) + 6)) : Int)) (ev_b (s12.1 (((r13 - 1) + 6)) (Int.toNat a0)) fun x15 => ev_b (ev_pI s12 281 2 x15) fun s16 => some (1, s16)))) else (some (0, s1))
theorem jt_140 (d : Nat) (hd : 3 ≤ d) (Q : Nat) (a0 : Int) (ha0 : ev_rng a0) (S : ev_St) (x : Int) (S' : ev_St) (hJ : jm_140 Q a0 S = some (x, S')) : ev_Ref d 140 [.ref 281, .int (Int32.ofInt a0)] S (ev_eI x) S' (ev_bl x) := by
  obtain ⟨d, rfl⟩ : ∃ e, d = e + 1 := ⟨d - 1, by omega⟩
  refine ev_ref_of (P := ev_bl) (lv := [(0, .ref 281), (1, .int (Int32.ofInt a0))]) (by decide +kernel) (by (try simp only [ev_sum, ev_nv_cat]); first | done | rfl) (by (try simp only [lv_args, ev_nv_cat]); first | done | rfl) ?_ x S' hJ
  unfold jm_140
  refine ev_r_aload_n (pc := 0) (k := 0) (v := .ref 281) trivial (by decide +kernel) (by rfl) ?_
  refine ev_r_virt (pc := 1) (y := 202) (mi := 128) (na := 0) (k := 281) (as := []) (rest := []) (encc := ev_oI) (Q := ev_rng) (fun x S1 h => jt_128 d (by omega) Q   S x S1 h) (by exact ev_ob_281) (by decide +kernel) (by decide +kernel) (by decide +kernel) (by decide +kernel) rfl (by (try simp only [ev_sum, ev_nv_cat]); first | done | rfl) ?_
  intro x2 s1 hx2
  show ev_w _ _ _ _ _ [.int (Int32.ofInt x2)] _ _ _ _
  refine ev_r_bipush (pc := 4) (k := 40) (by decide +kernel) (by decide +kernel) ?_
  refine ev_r_icmp (pc := 6) (q := .lt) (o := 5) (t := 11) (c := x2 < 40) (by decide +kernel) (ev_k_lt hx2 (by decide)) (by decide +kernel) ?_ ?_
  · intro c3
    refine ev_r_aload_n (pc := 11) (k := 0) (v := .ref 281) trivial (by decide +kernel) (by rfl) ?_
    refine ev_r_aload_n (pc := 12) (k := 0) (v := .ref 281) trivial (by decide +kernel) (by rfl) ?_
    refine ev_r_aload_n (pc := 13) (k := 0) (v := .ref 281) trivial (by decide +kernel) (by rfl) ?_
    refine ev_r_getI (pc := 14) (y := 73) (ci := 8) (f := 4) (fin := 0) (by decide +kernel) (by decide +kernel) (by exact ev_ob_281) rfl ?_
    intro x4 hx4
    refine ev_r_iconst (pc := 17) (k := 3) (by decide +kernel) ?_
    refine ev_r_aload_n (pc := 18) (k := 0) (v := .ref 281) trivial (by decide +kernel) (by rfl) ?_
    refine ev_r_getI (pc := 19) (y := 70) (ci := 8) (f := 3) (fin := 0) (by decide +kernel) (by decide +kernel) (by exact ev_ob_281) rfl ?_
    intro x5 hx5
    refine ev_r_aload_n (pc := 22) (k := 0) (v := .ref 281) trivial (by decide +kernel) (by rfl) ?_
    refine ev_r_getI (pc := 23) (y := 82) (ci := 8) (f := 9) (fin := 0) (by decide +kernel) (by decide +kernel) (by exact ev_ob_281) rfl ?_
    intro x6 hx6
    refine ev_r_virt (pc := 26) (y := 142) (mi := 124) (na := 4) (k := 281) (as := [.int (Int32.ofInt x4), .int (Int32.ofInt 3), .int (Int32.ofInt x5), .int (Int32.ofInt x6)]) (rest := [.ref 281]) (encc := ev_oI) (Q := ev_rng) (fun x S1 h => jt_124 d (by omega) Q x4 3 x5 x6 hx4 (by decide) hx5 hx6 s1 x S1 h) (by exact ev_ob_281) (by decide +kernel) (by decide +kernel) (by decide +kernel) (by decide +kernel) rfl (by (try simp only [ev_sum, ev_nv_cat]); first | done | rfl) ?_
    intro x8 s7 hx8
    show ev_w _ _ _ _ _ [.int (Int32.ofInt x8), .ref 281] _ _ _ _
    refine ev_r_putI (pc := 29) (y := 73) (ci := 8) (f := 4) hx8 (by decide +kernel) (by decide +kernel) (by exact ev_ob_281) rfl rfl ?_
    intro s9
    refine ev_r_aload_n (pc := 32) (k := 0) (v := .ref 281) trivial (by decide +kernel) (by rfl) ?_
    refine ev_r_iconst (pc := 33) (k := 1) (by decide +kernel) ?_
    refine ev_r_iconst (pc := 34) (k := 4) (by decide +kernel) ?_
    refine ev_r_iload_n (pc := 35) (k := 1) (v := Int32.ofInt a0) (by decide +kernel) (by rfl) ?_
    refine ev_r_imul (pc := 36) (by decide +kernel) ?_
    intro x10 hx10
    refine ev_r_aload_n (pc := 37) (k := 0) (v := .ref 281) trivial (by decide +kernel) (by rfl) ?_
    refine ev_r_getI (pc := 38) (y := 73) (ci := 8) (f := 4) (fin := 0) (by decide +kernel) (by decide +kernel) (by exact ev_ob_281) rfl ?_
    intro x11 hx11
    refine ev_r_virt (pc := 41) (y := 172) (mi := 130) (na := 3) (k := 281) (as := [.int (Int32.ofInt 1), .int (Int32.ofInt x10), .int (Int32.ofInt x11)]) (rest := []) (encc := ev_oU) (Q := ev_PU) (fun x S1 h => jt_130 d (by omega) Q 1 x10 x11 (by decide) hx10 hx11 s9 x S1 h) (by exact ev_ob_281) (by decide +kernel) (by decide +kernel) (by decide +kernel) (by decide +kernel) rfl (by (try simp only [ev_sum, ev_nv_cat]); first | done | rfl) ?_
    intro _ s12 _
    show ev_w _ _ _ _ _ [] _ _ _ _
    refine ev_r_aload_n (pc := 44) (k := 0) (v := .ref 281) trivial (by decide +kernel) (by rfl) ?_
    refine ev_r_aload_n (pc := 45) (k := 0) (v := .ref 281) trivial (by decide +kernel) (by rfl) ?_
    refine ev_r_getR (pc := 46) (y := 58) (ci := 8) (f := 0) (fin := 0) (t := 5) (by decide +kernel) (by decide +kernel) (by exact ev_ob_281) rfl rfl ?_
    intro r13 hr13
    have hr13 : r13 = 0 ∨ ev_isOb (r13 - 1) 5 = true := hr13
    refine ev_r_chk ?_
    intro c14
    refine ev_r_dr (r := r13) (fun v => [v, .ref 281]) c14 ?_
    refine ev_r_getC (pc := 49) (y := 93) (ci := 5) (f := 5) (fin := 2) (k' := ((r13 - 1) + 6)) (by decide +kernel) (by decide +kernel) (by exact (hr13.resolve_left c14)) rfl rfl ?_
    refine ev_r_iload_n (pc := 52) (k := 1) (v := Int32.ofInt a0) (by decide +kernel) (by rfl) ?_
    refine ev_r_iald (pc := 53) ha0 (by decide +kernel) (by exact (ev_fo_5_5 (hr13.resolve_left c14))) ?_
    intro x15 hx15
    refine ev_r_putI (pc := 54) (y := 96) (ci := 8) (f := 2) hx15 (by decide +kernel) (by decide +kernel) (by exact ev_ob_281) rfl rfl ?_
    intro s16
    refine ev_r_iconst (pc := 57) (k := 1) (by decide +kernel) ?_
    exact ev_r_ireturn (pc := 58) (x := 1) (v := Int32.ofInt 1) (ty := .boolean) (by decide : ev_bl 1) (by decide +kernel) (by decide +kernel) (ev_ret_bl (by decide : ev_bl 1)) rfl
  · intro c3
    refine ev_r_iconst (pc := 9) (k := 0) (by decide +kernel) ?_
    exact ev_r_ireturn (pc := 10) (x := 0) (v := Int32.ofInt 0) (ty := .boolean) (by decide : ev_bl 0) (by decide +kernel) (by decide +kernel) (ev_ret_bl (by decide : ev_bl 0)) rfl
/-- MendBench$Search.enter(I)Z -/
def jm_136 (Q : Nat) (a0 : Int) (S : ev_St) : Option ((Int) × ev_St) := ev_b (S.2.2.1 281 0) fun r1 => ev_if (r1 ≠ 0) (ev_if ((0 : Int) ≤ a0 ∧ a0 < (ev_aln (((r1 - 1) + 1)) : Int)) (ev_b (S.1 (((r1 - 1) + 1)) (Int.toNat a0)) fun x3 => if x3 ≠ 17 then (if x3 ≠ 18 then (ev_bd (jm_123 Q  S) fun x7 s6 => if x7 ≠ 0 then (ev_bd (jm_61 Q x3 s6) fun x10 s9 => if x10 = 0 then (if x3 = 0 then (ev_b (s9.2.2.1 281 0) fun r13 => ev_if (r13 ≠ 0) (ev_if ((0 : Int) ≤ a0 ∧ a0 < (ev_aln (((r13 - 1) + 7)) : Int)) (ev_b (s9.1 (((r13 - 1) + 7)) (Int.toNat a0)) fun x15 => ev_b (ev_pI s9 281 2 x15) fun s16 => ev_b (s16.1 281 3) fun x17 => ev_ck (x17 + 1) fun x18 => ev_b (ev_pI s16 281 3 x18) fun s19 => ev_b (s19.2.2.1 281 0) fun r20 => ev_if (r20 ≠ 0) (ev_if ((0 : Int) ≤ a0 ∧ a0 < (ev_aln (((r20 - 1) + 8)) : Int)) (ev_b (s19.2.1 (((r20 - 1) + 8)) (Int.toNat a0)) fun y22 => ev_b (s19.2.2.1 281 0) fun r23 => ev_if (r23 ≠ 0) (ev_if ((0 : Int) ≤ a0 ∧ a0 < (ev_aln (((r23 - 1) + 9)) : Int)) (ev_b (s19.2.1 (((r23 - 1) + 9)) (Int.toNat a0)) fun y25 => ev_b (s19.2.2.1 281 1) fun r26 => ev_b (s19.1 281 3) fun x27 => ev_ck (x27 - 1) fun x28 => ev_if (r26 ≠ 0) (ev_bd (jm_151 Q ((r26 - 1)) x28 s19) fun x31 s30 => ev_bd (jm_214 Q y22 y25 x31 s30) fun x33 s32 => ev_if (ev_bl x33) (some (x33, s32)))))))))) else (if x3 = 1 ∨ x3 = 2 ∨ x3 = 3 ∨ x3 = 4 ∨ x3 = 5 ∨ x3 = 6 then (ev_bd (jm_140 Q a0 s9) fun x37 s36 => ev_if (ev_bl x37) (some (x37, s36))) else (if x3 = 7 then (ev_bd (jm_137 Q a0 s9) fun x41 s40 => ev_if (ev_bl x41) (some (x41, s40))) else (if x3 = 8 then (ev_bd (jm_138 Q a0 s9) fun x45 s44 => ev_if (ev_bl x45) (some (x45, s44))) else (if x3 = 9 then (ev_bd (jm_139 Q a0 s9) fun x49 s48 => ev_if (ev_bl x49) (some (x49, s48))) else (if x3 = 10 then (some (0, s9)) else (if x3 = 11 ∨ x3 = 12 then (ev_jn (fun (x53 : Int) (s57 : ev_St) => ev_b (s57.1 281 4) fun x58 => ev_bd (jm_130 Q x53 0 x58 s57) fun _ s59 => ev_b (s59.2.2.1 281 0) fun r60 => ev_if (r60 ≠ 0) (ev_if ((0 : Int) ≤ a0 ∧ a0 < (ev_aln (((r60 - 1) + 7)) : Int)) (ev_b (s59.1 (((r60 - 1) + 7)) (Int.toNat a0)) fun x62 => ev_b (ev_pI s59 281 2 x62) fun s63 => some (1, s63)))) fun K280 => if x3 ≠ 11 then (K280 3 s9) else (K280 2 s9)) else (if x3 = 13 ∨ x3 = 14 then (ev_b (s9.1 281 4) fun x66 => ev_b (s9.1 281 3) fun x67 => ev_bd (jm_124 Q x66 0 0 x67 s9) fun x69 s68 => ev_b (ev_pI s68 281 4 x69) fun s70 => ev_bd (jm_143 Q a0 s70) fun x72 s71 => ev_if (ev_bl x72) (some (x72, s71))) else (if x3 = 15 then (ev_b (s9.2.2.1 281 0) fun r75 => ev_if (r75 ≠ 0) (ev_if ((0 : Int) ≤ a0 ∧ a0 < (ev_aln (((r75 - 1) + 5)) : Int)) (ev_b (s9.1 (((r75 - 1) + 5)) (Int.toNat a0)) fun x77 => ev_jn (fun  (s81 : ev_St) => ev_b (s81.2.2.1 281 0) fun r82 => ev_if (r82 ≠ 0) (ev_if ((0 : Int) ≤ a0 ∧ a0 < (ev_aln (((r82 - 1) + 6)) : Int)) (ev_b (s81.1 (((r82 - 1) + 6)) (Int.toNat a0)) fun x84 => ev_b (ev_pI s81 281 2 x84) fun s85 => some (1, s85)))) fun K361 => if x77 < 0 then (K361  s9) else (ev_b (s9.2.2.1 281 0) fun r87 => ev_if (r87 ≠ 0) (ev_if ((0 : Int) ≤ a0 ∧ a0 < (ev_aln (((r87 - 1) + 5)) : Int)) (ev_b (s9.1 (((r87 - 1) + 5)) (Int.toNat a0)) fun x89 => ev_ck (4 * x89) fun x90 => ev_ck (x90 + 0) fun x91 => ev_b (s9.1 281 4) fun x92 => ev_bd (jm_130 Q 0 x91 x92 s9) fun _ s93 => K361  s93)))))) else (ev_bd (jm_140 Q a0 s9) fun x95 s94 => ev_if (ev_bl x95) (some (x95, s94)))))))))))) else (ev_b (s9.2.2.1 281 0) fun r97 => ev_if (r97 ≠ 0) (ev_if ((0 : Int) ≤ a0 ∧ a0 < (ev_aln (((r97 - 1) + 7)) : Int)) (ev_b (s9.1 (((r97 - 1) + 7)) (Int.toNat a0)) fun x99 => ev_b (ev_pI s9 281 2 x99) fun s100 => ev_b (s100.2.2.1 281 1) fun r101 => ev_b (s100.1 281 3) fun x102 => ev_if (r101 ≠ 0) (ev_bd (jm_155 Q ((r101 - 1)) x3 x102 s100) fun x105 s104 => ev_if (ev_bl x105) (some (x105, s104))))))) else (some (0, s6))) else (ev_b (S.1 281 4) fun x107 => ev_b (S.1 281 3) fun x108 => ev_bd (jm_124 Q x107 1 x108 0 S) fun x110 s109 => ev_b (ev_pI s109 281 4 x110) fun s111 => ev_b (s111.2.2.1 281 0) fun r112 => ev_if (r112 ≠ 0) (ev_if ((0 : Int) ≤ a0 ∧ a0 < (ev_aln (((r112 - 1) + 6)) : Int)) (ev_b (s111.1 (((r112 - 1) + 6)) (Int.toNat a0)) fun x114 => ev_b (ev_pI s111 281 2 x114) fun s115 => some (1, s115))))) else (ev_b (S.2.2.1 281 0) fun r116 => ev_if (r116 ≠ 0) (ev_if ((0 : Int) ≤ a0 ∧ a0 < (ev_aln (((r116 - 1) + 6)) : Int)) (ev_b (S.1 (((r116 - 1) + 6)) (Int.toNat a0)) fun x118 => ev_b (ev_pI S 281 2 x118) fun s119 => some (1, s119))))))
theorem jt_136 (d : Nat) (hd : 4 ≤ d) (Q : Nat) (a0 : Int) (ha0 : ev_rng a0) (S : ev_St) (x : Int) (S' : ev_St) (hJ : jm_136 Q a0 S = some (x, S')) : ev_Ref d 136 [.ref 281, .int (Int32.ofInt a0)] S (ev_eI x) S' (ev_bl x) := by
  obtain ⟨d, rfl⟩ : ∃ e, d = e + 1 := ⟨d - 1, by omega⟩
  refine ev_ref_of (P := ev_bl) (lv := [(0, .ref 281), (1, .int (Int32.ofInt a0))]) (by decide +kernel) (by (try simp only [ev_sum, ev_nv_cat]); first | done | rfl) (by (try simp only [lv_args, ev_nv_cat]); first | done | rfl) ?_ x S' hJ
  unfold jm_136
  refine ev_r_aload_n (pc := 0) (k := 0) (v := .ref 281) trivial (by decide +kernel) (by rfl) ?_
  refine ev_r_getR (pc := 1) (y := 58) (ci := 8) (f := 0) (fin := 0) (t := 5) (by decide +kernel) (by decide +kernel) (by exact ev_ob_281) rfl rfl ?_
  intro r1 hr1
  have hr1 : r1 = 0 ∨ ev_isOb (r1 - 1) 5 = true := hr1
  refine ev_r_chk ?_
  intro c2
  refine ev_r_dr (r := r1) (fun v => [v]) c2 ?_
  refine ev_r_getC (pc := 4) (y := 132) (ci := 5) (f := 0) (fin := 2) (k' := ((r1 - 1) + 1)) (by decide +kernel) (by decide +kernel) (by exact (hr1.resolve_left c2)) rfl rfl ?_
  refine ev_r_iload_n (pc := 7) (k := 1) (v := Int32.ofInt a0) (by decide +kernel) (by rfl) ?_
  refine ev_r_iald (pc := 8) ha0 (by decide +kernel) (by exact (ev_fo_5_0 (hr1.resolve_left c2))) ?_
  intro x3 hx3
  refine ev_r_istore_n (pc := 9) (k := 2) (by decide +kernel) (by decide +kernel) rfl ?_
  refine ev_r_iload_n (pc := 10) (k := 2) (v := Int32.ofInt x3) (by decide +kernel) (by exact ev_lk_st1_self) ?_
  refine ev_r_bipush (pc := 11) (k := 17) (by decide +kernel) (by decide +kernel) ?_
  refine ev_r_icmp (pc := 13) (q := .ne) (o := 18) (t := 31) (c := x3 ≠ 17) (by decide +kernel) (ev_k_ne hx3 (by decide)) (by decide +kernel) ?_ ?_
  · intro c4
    refine ev_r_iload_n (pc := 31) (k := 2) (v := Int32.ofInt x3) (by decide +kernel) (by exact ev_lk_st1_self) ?_
    refine ev_r_bipush (pc := 32) (k := 18) (by decide +kernel) (by decide +kernel) ?_
    refine ev_r_icmp (pc := 34) (q := .ne) (o := 36) (t := 70) (c := x3 ≠ 18) (by decide +kernel) (ev_k_ne hx3 (by decide)) (by decide +kernel) ?_ ?_
    · intro c5
      refine ev_r_aload_n (pc := 70) (k := 0) (v := .ref 281) trivial (by decide +kernel) (by exact (ev_l1 (by rfl) (by decide) (by decide))) ?_
      refine ev_r_virt (pc := 71) (y := 135) (mi := 123) (na := 0) (k := 281) (as := []) (rest := []) (encc := ev_oI) (Q := ev_bl) (fun x S1 h => jt_123 d (by omega) Q   S x S1 h) (by exact ev_ob_281) (by decide +kernel) (by decide +kernel) (by decide +kernel) (by decide +kernel) rfl (by (try simp only [ev_sum, ev_nv_cat]); first | done | rfl) ?_
      intro x7 s6 hx7
      replace hx7 := ev_bl_rng hx7
      show ev_w _ _ _ _ _ [.int (Int32.ofInt x7)] _ _ _ _
      refine ev_r_if (pc := 74) (q := .ne) (o := 5) (t := 79) (c := x7 ≠ 0) (by decide +kernel) (ev_k_ne hx7 ev_rng0) (by decide +kernel) ?_ ?_
      · intro c8
        refine ev_r_iload_n (pc := 79) (k := 2) (v := Int32.ofInt x3) (by decide +kernel) (by exact ev_lk_st1_self) ?_
        refine ev_r_stat (pc := 80) (y := 145) (kind := 2) (mi := 61) (na := 1) (as := [.int (Int32.ofInt x3)]) (rest := []) (encc := ev_oI) (Q := ev_bl) (fun x S1 h => jt_61 d (by omega) Q x3 hx3 s6 x S1 h) (Or.inl rfl) (by decide +kernel) (by decide +kernel) (by decide +kernel) (by decide +kernel) rfl (by (try simp only [ev_sum, ev_nv_cat]); first | done | rfl) ?_
        intro x10 s9 hx10
        replace hx10 := ev_bl_rng hx10
        show ev_w _ _ _ _ _ [.int (Int32.ofInt x10)] _ _ _ _
        refine ev_r_if (pc := 83) (q := .eq) (o := 29) (t := 112) (c := x10 = 0) (by decide +kernel) (ev_k_eq hx10 ev_rng0) (by decide +kernel) ?_ ?_
        · intro c11
          refine ev_r_iload_n (pc := 112) (k := 2) (v := Int32.ofInt x3) (by decide +kernel) (by exact ev_lk_st1_self) ?_
          refine ev_r_ite ?_ ?_
          · intro c12
            refine ev_r_sw (pc := 113) (i := (.tableswitch 265 0 15 #[79, 265, 265, 265, 265, 265, 265, 137, 143, 149, 263, 155, 155, 190, 190, 214])) (len := 79) (pc' := 192) (by decide +kernel) (by rw [c12]; rw [ev_pure_tsw]; exact ev_tsw_c (o := 79) (by decide) (by decide) rfl (by decide +kernel)) ?_
            refine ev_r_aload_n (pc := 192) (k := 0) (v := .ref 281) trivial (by decide +kernel) (by exact (ev_l1 (by rfl) (by decide) (by decide))) ?_
            refine ev_r_aload_n (pc := 193) (k := 0) (v := .ref 281) trivial (by decide +kernel) (by exact (ev_l1 (by rfl) (by decide) (by decide))) ?_
            refine ev_r_getR (pc := 194) (y := 58) (ci := 8) (f := 0) (fin := 0) (t := 5) (by decide +kernel) (by decide +kernel) (by exact ev_ob_281) rfl rfl ?_
            intro r13 hr13
            have hr13 : r13 = 0 ∨ ev_isOb (r13 - 1) 5 = true := hr13
            refine ev_r_chk ?_
            intro c14
            refine ev_r_dr (r := r13) (fun v => [v, .ref 281]) c14 ?_
            refine ev_r_getC (pc := 197) (y := 139) (ci := 5) (f := 6) (fin := 2) (k' := ((r13 - 1) + 7)) (by decide +kernel) (by decide +kernel) (by exact (hr13.resolve_left c14)) rfl rfl ?_
            refine ev_r_iload_n (pc := 200) (k := 1) (v := Int32.ofInt a0) (by decide +kernel) (by exact (ev_lk_st1 (by rfl) (by decide) rfl)) ?_
            refine ev_r_iald (pc := 201) ha0 (by decide +kernel) (by exact (ev_fo_5_6 (hr13.resolve_left c14))) ?_
            intro x15 hx15
            refine ev_r_putI (pc := 202) (y := 96) (ci := 8) (f := 2) hx15 (by decide +kernel) (by decide +kernel) (by exact ev_ob_281) rfl rfl ?_
            intro s16
            refine ev_r_aload_n (pc := 205) (k := 0) (v := .ref 281) trivial (by decide +kernel) (by exact (ev_l1 (by rfl) (by decide) (by decide))) ?_
            refine ev_r_dup (pc := 206) rfl (by decide +kernel) ?_
            refine ev_r_getI (pc := 207) (y := 70) (ci := 8) (f := 3) (fin := 0) (by decide +kernel) (by decide +kernel) (by exact ev_ob_281) rfl ?_
            intro x17 hx17
            refine ev_r_iconst (pc := 210) (k := 1) (by decide +kernel) ?_
            refine ev_r_iadd (pc := 211) (by decide +kernel) ?_
            intro x18 hx18
            refine ev_r_putI (pc := 212) (y := 70) (ci := 8) (f := 3) hx18 (by decide +kernel) (by decide +kernel) (by exact ev_ob_281) rfl rfl ?_
            intro s19
            refine ev_r_aload_n (pc := 215) (k := 0) (v := .ref 281) trivial (by decide +kernel) (by exact (ev_l1 (by rfl) (by decide) (by decide))) ?_
            refine ev_r_getR (pc := 216) (y := 58) (ci := 8) (f := 0) (fin := 0) (t := 5) (by decide +kernel) (by decide +kernel) (by exact ev_ob_281) rfl rfl ?_
            intro r20 hr20
            have hr20 : r20 = 0 ∨ ev_isOb (r20 - 1) 5 = true := hr20
            refine ev_r_chk ?_
            intro c21
            refine ev_r_dr (r := r20) (fun v => [v]) c21 ?_
            refine ev_r_getC (pc := 219) (y := 152) (ci := 5) (f := 7) (fin := 2) (k' := ((r20 - 1) + 8)) (by decide +kernel) (by decide +kernel) (by exact (hr20.resolve_left c21)) rfl rfl ?_
            refine ev_r_iload_n (pc := 222) (k := 1) (v := Int32.ofInt a0) (by decide +kernel) (by exact (ev_lk_st1 (by rfl) (by decide) rfl)) ?_
            refine ev_r_lald (pc := 223) ha0 (by decide +kernel) (by exact (ev_fo_5_7 (hr20.resolve_left c21))) ?_
            intro y22
            refine ev_r_aload_n (pc := 224) (k := 0) (v := .ref 281) trivial (by decide +kernel) (by exact (ev_l1 (by rfl) (by decide) (by decide))) ?_
            refine ev_r_getR (pc := 225) (y := 58) (ci := 8) (f := 0) (fin := 0) (t := 5) (by decide +kernel) (by decide +kernel) (by exact ev_ob_281) rfl rfl ?_
            intro r23 hr23
            have hr23 : r23 = 0 ∨ ev_isOb (r23 - 1) 5 = true := hr23
            refine ev_r_chk ?_
            intro c24
            refine ev_r_dr (r := r23) (fun v => [v, .long y22]) c24 ?_
            refine ev_r_getC (pc := 228) (y := 156) (ci := 5) (f := 8) (fin := 2) (k' := ((r23 - 1) + 9)) (by decide +kernel) (by decide +kernel) (by exact (hr23.resolve_left c24)) rfl rfl ?_
            refine ev_r_iload_n (pc := 231) (k := 1) (v := Int32.ofInt a0) (by decide +kernel) (by exact (ev_lk_st1 (by rfl) (by decide) rfl)) ?_
            refine ev_r_lald (pc := 232) ha0 (by decide +kernel) (by exact (ev_fo_5_8 (hr23.resolve_left c24))) ?_
            intro y25
            refine ev_r_aload_n (pc := 233) (k := 0) (v := .ref 281) trivial (by decide +kernel) (by exact (ev_l1 (by rfl) (by decide) (by decide))) ?_
            refine ev_r_getR (pc := 234) (y := 27) (ci := 8) (f := 1) (fin := 0) (t := 10) (by decide +kernel) (by decide +kernel) (by exact ev_ob_281) rfl rfl ?_
            intro r26 hr26
            have hr26 : r26 = 0 ∨ ev_isOb (r26 - 1) 10 = true := hr26
            refine ev_r_aload_n (pc := 237) (k := 0) (v := .ref 281) trivial (by decide +kernel) (by exact (ev_l1 (by rfl) (by decide) (by decide))) ?_
            refine ev_r_getI (pc := 238) (y := 70) (ci := 8) (f := 3) (fin := 0) (by decide +kernel) (by decide +kernel) (by exact ev_ob_281) rfl ?_
            intro x27 hx27
            refine ev_r_iconst (pc := 241) (k := 1) (by decide +kernel) ?_
            refine ev_r_isub (pc := 242) (by decide +kernel) ?_
            intro x28 hx28
            refine ev_r_chk ?_
            intro c29
            refine ev_r_dr (r := r26) (fun v => [.int (Int32.ofInt x28), v, .long y25, .long y22]) c29 ?_
            refine ev_r_virt (pc := 243) (y := 55) (mi := 151) (na := 1) (k := (r26 - 1)) (as := [.int (Int32.ofInt x28)]) (rest := [.long y25, .long y22]) (encc := ev_oI) (Q := ev_rng) (fun x S1 h => jt_151 d (by omega) Q ((r26 - 1)) x28 (hr26.resolve_left c29) hx28 s19 x S1 h) (by exact (hr26.resolve_left c29)) (by decide +kernel) (by decide +kernel) (by decide +kernel) (by decide +kernel) rfl (by (try simp only [ev_sum, ev_nv_cat]); first | done | rfl) ?_
            intro x31 s30 hx31
            show ev_w _ _ _ _ _ [.int (Int32.ofInt x31), .long y25, .long y22] _ _ _ _
            refine ev_r_stat (pc := 246) (y := 159) (kind := 5) (mi := 214) (na := 3) (as := [.long y22, .long y25, .int (Int32.ofInt x31)]) (rest := []) (encc := ev_oI) (Q := ev_bl) (fun x S1 h => jt_214 d (by omega) Q y22 y25 x31 hx31 s30 x S1 h) (Or.inr (Or.inl rfl)) (by decide +kernel) (by decide +kernel) (by decide +kernel) (by decide +kernel) rfl (by (try simp only [ev_sum, ev_nv_cat]); first | done | rfl) ?_
            intro x33 s32 hx33
            replace hx33 := ev_bl_rng hx33
            show ev_w _ _ _ _ _ [.int (Int32.ofInt x33)] _ _ _ _
            refine ev_r_chk ?_
            intro c34
            exact ev_r_ireturn (pc := 249) (x := x33) (v := Int32.ofInt x33) (ty := .boolean) c34 (by decide +kernel) (by decide +kernel) (ev_ret_bl c34) rfl
          · intro c12
            refine ev_r_ite ?_ ?_
            · intro c35
              refine ev_r_sw (pc := 113) (i := (.tableswitch 265 0 15 #[79, 265, 265, 265, 265, 265, 265, 137, 143, 149, 263, 155, 155, 190, 190, 214])) (len := 79) (pc' := 378) (by decide +kernel) (by rcases c35 with e | e | e | e | e | e <;> (rw [e]; rw [ev_pure_tsw]; exact ev_tsw_c (o := 265) (by decide) (by decide) rfl (by decide +kernel))) ?_
              refine ev_r_aload_n (pc := 378) (k := 0) (v := .ref 281) trivial (by decide +kernel) (by exact (ev_l1 (by rfl) (by decide) (by decide))) ?_
              refine ev_r_iload_n (pc := 379) (k := 1) (v := Int32.ofInt a0) (by decide +kernel) (by exact (ev_lk_st1 (by rfl) (by decide) rfl)) ?_
              refine ev_r_virt (pc := 380) (y := 181) (mi := 140) (na := 1) (k := 281) (as := [.int (Int32.ofInt a0)]) (rest := []) (encc := ev_oI) (Q := ev_bl) (fun x S1 h => jt_140 d (by omega) Q a0 ha0 s9 x S1 h) (by exact ev_ob_281) (by decide +kernel) (by decide +kernel) (by decide +kernel) (by decide +kernel) rfl (by (try simp only [ev_sum, ev_nv_cat]); first | done | rfl) ?_
              intro x37 s36 hx37
              replace hx37 := ev_bl_rng hx37
              show ev_w _ _ _ _ _ [.int (Int32.ofInt x37)] _ _ _ _
              refine ev_r_chk ?_
              intro c38
              exact ev_r_ireturn (pc := 383) (x := x37) (v := Int32.ofInt x37) (ty := .boolean) c38 (by decide +kernel) (by decide +kernel) (ev_ret_bl c38) rfl
            · intro c35
              refine ev_r_ite ?_ ?_
              · intro c39
                refine ev_r_sw (pc := 113) (i := (.tableswitch 265 0 15 #[79, 265, 265, 265, 265, 265, 265, 137, 143, 149, 263, 155, 155, 190, 190, 214])) (len := 79) (pc' := 250) (by decide +kernel) (by rw [c39]; rw [ev_pure_tsw]; exact ev_tsw_c (o := 137) (by decide) (by decide) rfl (by decide +kernel)) ?_
                refine ev_r_aload_n (pc := 250) (k := 0) (v := .ref 281) trivial (by decide +kernel) (by exact (ev_l1 (by rfl) (by decide) (by decide))) ?_
                refine ev_r_iload_n (pc := 251) (k := 1) (v := Int32.ofInt a0) (by decide +kernel) (by exact (ev_lk_st1 (by rfl) (by decide) rfl)) ?_
                refine ev_r_virt (pc := 252) (y := 163) (mi := 137) (na := 1) (k := 281) (as := [.int (Int32.ofInt a0)]) (rest := []) (encc := ev_oI) (Q := ev_bl) (fun x S1 h => jt_137 d (by omega) Q a0 ha0 s9 x S1 h) (by exact ev_ob_281) (by decide +kernel) (by decide +kernel) (by decide +kernel) (by decide +kernel) rfl (by (try simp only [ev_sum, ev_nv_cat]); first | done | rfl) ?_
                intro x41 s40 hx41
                replace hx41 := ev_bl_rng hx41
                show ev_w _ _ _ _ _ [.int (Int32.ofInt x41)] _ _ _ _
                refine ev_r_chk ?_
                intro c42
                exact ev_r_ireturn (pc := 255) (x := x41) (v := Int32.ofInt x41) (ty := .boolean) c42 (by decide +kernel) (by decide +kernel) (ev_ret_bl c42) rfl
              · intro c39
                refine ev_r_ite ?_ ?_
                · intro c43
                  refine ev_r_sw (pc := 113) (i := (.tableswitch 265 0 15 #[79, 265, 265, 265, 265, 265, 265, 137, 143, 149, 263, 155, 155, 190, 190, 214])) (len := 79) (pc' := 256) (by decide +kernel) (by rw [c43]; rw [ev_pure_tsw]; exact ev_tsw_c (o := 143) (by decide) (by decide) rfl (by decide +kernel)) ?_
                  refine ev_r_aload_n (pc := 256) (k := 0) (v := .ref 281) trivial (by decide +kernel) (by exact (ev_l1 (by rfl) (by decide) (by decide))) ?_
                  refine ev_r_iload_n (pc := 257) (k := 1) (v := Int32.ofInt a0) (by decide +kernel) (by exact (ev_lk_st1 (by rfl) (by decide) rfl)) ?_
                  refine ev_r_virt (pc := 258) (y := 166) (mi := 138) (na := 1) (k := 281) (as := [.int (Int32.ofInt a0)]) (rest := []) (encc := ev_oI) (Q := ev_bl) (fun x S1 h => jt_138 d (by omega) Q a0 ha0 s9 x S1 h) (by exact ev_ob_281) (by decide +kernel) (by decide +kernel) (by decide +kernel) (by decide +kernel) rfl (by (try simp only [ev_sum, ev_nv_cat]); first | done | rfl) ?_
                  intro x45 s44 hx45
                  replace hx45 := ev_bl_rng hx45
                  show ev_w _ _ _ _ _ [.int (Int32.ofInt x45)] _ _ _ _
                  refine ev_r_chk ?_
                  intro c46
                  exact ev_r_ireturn (pc := 261) (x := x45) (v := Int32.ofInt x45) (ty := .boolean) c46 (by decide +kernel) (by decide +kernel) (ev_ret_bl c46) rfl
                · intro c43
                  refine ev_r_ite ?_ ?_
                  · intro c47
                    refine ev_r_sw (pc := 113) (i := (.tableswitch 265 0 15 #[79, 265, 265, 265, 265, 265, 265, 137, 143, 149, 263, 155, 155, 190, 190, 214])) (len := 79) (pc' := 262) (by decide +kernel) (by rw [c47]; rw [ev_pure_tsw]; exact ev_tsw_c (o := 149) (by decide) (by decide) rfl (by decide +kernel)) ?_
                    refine ev_r_aload_n (pc := 262) (k := 0) (v := .ref 281) trivial (by decide +kernel) (by exact (ev_l1 (by rfl) (by decide) (by decide))) ?_
                    refine ev_r_iload_n (pc := 263) (k := 1) (v := Int32.ofInt a0) (by decide +kernel) (by exact (ev_lk_st1 (by rfl) (by decide) rfl)) ?_
                    refine ev_r_virt (pc := 264) (y := 169) (mi := 139) (na := 1) (k := 281) (as := [.int (Int32.ofInt a0)]) (rest := []) (encc := ev_oI) (Q := ev_bl) (fun x S1 h => jt_139 d (by omega) Q a0 ha0 s9 x S1 h) (by exact ev_ob_281) (by decide +kernel) (by decide +kernel) (by decide +kernel) (by decide +kernel) rfl (by (try simp only [ev_sum, ev_nv_cat]); first | done | rfl) ?_
                    intro x49 s48 hx49
                    replace hx49 := ev_bl_rng hx49
                    show ev_w _ _ _ _ _ [.int (Int32.ofInt x49)] _ _ _ _
                    refine ev_r_chk ?_
                    intro c50
                    exact ev_r_ireturn (pc := 267) (x := x49) (v := Int32.ofInt x49) (ty := .boolean) c50 (by decide +kernel) (by decide +kernel) (ev_ret_bl c50) rfl
                  · intro c47
                    refine ev_r_ite ?_ ?_
                    · intro c51
                      refine ev_r_sw (pc := 113) (i := (.tableswitch 265 0 15 #[79, 265, 265, 265, 265, 265, 265, 137, 143, 149, 263, 155, 155, 190, 190, 214])) (len := 79) (pc' := 376) (by decide +kernel) (by rw [c51]; rw [ev_pure_tsw]; exact ev_tsw_c (o := 263) (by decide) (by decide) rfl (by decide +kernel)) ?_
                      refine ev_r_iconst (pc := 376) (k := 0) (by decide +kernel) ?_
                      exact ev_r_ireturn (pc := 377) (x := 0) (v := Int32.ofInt 0) (ty := .boolean) (by decide : ev_bl 0) (by decide +kernel) (by decide +kernel) (ev_ret_bl (by decide : ev_bl 0)) rfl
                    · intro c51
                      refine ev_r_ite ?_ ?_
                      · intro c52
                        refine ev_r_sw (pc := 113) (i := (.tableswitch 265 0 15 #[79, 265, 265, 265, 265, 265, 265, 137, 143, 149, 263, 155, 155, 190, 190, 214])) (len := 79) (pc' := 268) (by decide +kernel) (by rcases c52 with e | e <;> (rw [e]; rw [ev_pure_tsw]; exact ev_tsw_c (o := 155) (by decide) (by decide) rfl (by decide +kernel))) ?_
                        refine ev_r_aload_n (pc := 268) (k := 0) (v := .ref 281) trivial (by decide +kernel) (by exact (ev_l1 (by rfl) (by decide) (by decide))) ?_
                        refine ev_r_iload_n (pc := 269) (k := 2) (v := Int32.ofInt x3) (by decide +kernel) (by exact ev_lk_st1_self) ?_
                        refine ev_r_bipush (pc := 270) (k := 11) (by decide +kernel) (by decide +kernel) ?_
                        refine ev_r_jn (Q := fun K => ∀ (x53 : Int) (hx53 : ev_rng x53), ∀ (s57 : ev_St) (w54 : List (Nat × Value)), ev_lk w54 0 = some (.ref 281) → ev_lk w54 1 = some (.int (Int32.ofInt a0)) → ev_w none (ev_Mof 136) d 280 w54 [.int (Int32.ofInt x53), .ref 281] s57 (K x53 s57) ev_eI ev_bl) ?_ ?_
                        · intro x53 hx53 s57 w54 e55 e56
                          refine ev_r_iconst (pc := 280) (k := 0) (by decide +kernel) ?_
                          refine ev_r_aload_n (pc := 281) (k := 0) (v := .ref 281) trivial (by decide +kernel) (by exact e55) ?_
                          refine ev_r_getI (pc := 282) (y := 73) (ci := 8) (f := 4) (fin := 0) (by decide +kernel) (by decide +kernel) (by exact ev_ob_281) rfl ?_
                          intro x58 hx58
                          refine ev_r_virt (pc := 285) (y := 172) (mi := 130) (na := 3) (k := 281) (as := [.int (Int32.ofInt x53), .int (Int32.ofInt 0), .int (Int32.ofInt x58)]) (rest := []) (encc := ev_oU) (Q := ev_PU) (fun x S1 h => jt_130 d (by omega) Q x53 0 x58 hx53 (by decide) hx58 s57 x S1 h) (by exact ev_ob_281) (by decide +kernel) (by decide +kernel) (by decide +kernel) (by decide +kernel) rfl (by (try simp only [ev_sum, ev_nv_cat]); first | done | rfl) ?_
                          intro _ s59 _
                          show ev_w _ _ _ _ _ [] _ _ _ _
                          refine ev_r_aload_n (pc := 288) (k := 0) (v := .ref 281) trivial (by decide +kernel) (by exact e55) ?_
                          refine ev_r_aload_n (pc := 289) (k := 0) (v := .ref 281) trivial (by decide +kernel) (by exact e55) ?_
                          refine ev_r_getR (pc := 290) (y := 58) (ci := 8) (f := 0) (fin := 0) (t := 5) (by decide +kernel) (by decide +kernel) (by exact ev_ob_281) rfl rfl ?_
                          intro r60 hr60
                          have hr60 : r60 = 0 ∨ ev_isOb (r60 - 1) 5 = true := hr60
                          refine ev_r_chk ?_
                          intro c61
                          refine ev_r_dr (r := r60) (fun v => [v, .ref 281]) c61 ?_
                          refine ev_r_getC (pc := 293) (y := 139) (ci := 5) (f := 6) (fin := 2) (k' := ((r60 - 1) + 7)) (by decide +kernel) (by decide +kernel) (by exact (hr60.resolve_left c61)) rfl rfl ?_
                          refine ev_r_iload_n (pc := 296) (k := 1) (v := Int32.ofInt a0) (by decide +kernel) (by exact e56) ?_
                          refine ev_r_iald (pc := 297) ha0 (by decide +kernel) (by exact (ev_fo_5_6 (hr60.resolve_left c61))) ?_
                          intro x62 hx62
                          refine ev_r_putI (pc := 298) (y := 96) (ci := 8) (f := 2) hx62 (by decide +kernel) (by decide +kernel) (by exact ev_ob_281) rfl rfl ?_
                          intro s63
                          refine ev_r_iconst (pc := 301) (k := 1) (by decide +kernel) ?_
                          exact ev_r_ireturn (pc := 302) (x := 1) (v := Int32.ofInt 1) (ty := .boolean) (by decide : ev_bl 1) (by decide +kernel) (by decide +kernel) (ev_ret_bl (by decide : ev_bl 1)) rfl
                        · intro K280 hK280
                          refine ev_r_icmp (pc := 272) (q := .ne) (o := 7) (t := 279) (c := x3 ≠ 11) (by decide +kernel) (ev_k_ne hx3 (by decide)) (by decide +kernel) ?_ ?_
                          · intro c64
                            refine ev_r_iconst (pc := 279) (k := 3) (by decide +kernel) ?_
                            exact hK280 3 (by decide) s9 _ (by exact (ev_l1 (by rfl) (by decide) (by decide))) (by exact (ev_lk_st1 (by rfl) (by decide) rfl))
                          · intro c64
                            refine ev_r_iconst (pc := 275) (k := 2) (by decide +kernel) ?_
                            refine ev_r_goto (pc := 276) (o := 4) (t := 280) (by decide +kernel) (by decide +kernel) ?_
                            exact hK280 2 (by decide) s9 _ (by exact (ev_l1 (by rfl) (by decide) (by decide))) (by exact (ev_lk_st1 (by rfl) (by decide) rfl))
                      · intro c52
                        refine ev_r_ite ?_ ?_
                        · intro c65
                          refine ev_r_sw (pc := 113) (i := (.tableswitch 265 0 15 #[79, 265, 265, 265, 265, 265, 265, 137, 143, 149, 263, 155, 155, 190, 190, 214])) (len := 79) (pc' := 303) (by decide +kernel) (by rcases c65 with e | e <;> (rw [e]; rw [ev_pure_tsw]; exact ev_tsw_c (o := 190) (by decide) (by decide) rfl (by decide +kernel))) ?_
                          refine ev_r_aload_n (pc := 303) (k := 0) (v := .ref 281) trivial (by decide +kernel) (by exact (ev_l1 (by rfl) (by decide) (by decide))) ?_
                          refine ev_r_aload_n (pc := 304) (k := 0) (v := .ref 281) trivial (by decide +kernel) (by exact (ev_l1 (by rfl) (by decide) (by decide))) ?_
                          refine ev_r_aload_n (pc := 305) (k := 0) (v := .ref 281) trivial (by decide +kernel) (by exact (ev_l1 (by rfl) (by decide) (by decide))) ?_
                          refine ev_r_getI (pc := 306) (y := 73) (ci := 8) (f := 4) (fin := 0) (by decide +kernel) (by decide +kernel) (by exact ev_ob_281) rfl ?_
                          intro x66 hx66
                          refine ev_r_iconst (pc := 309) (k := 0) (by decide +kernel) ?_
                          refine ev_r_iconst (pc := 310) (k := 0) (by decide +kernel) ?_
                          refine ev_r_aload_n (pc := 311) (k := 0) (v := .ref 281) trivial (by decide +kernel) (by exact (ev_l1 (by rfl) (by decide) (by decide))) ?_
                          refine ev_r_getI (pc := 312) (y := 70) (ci := 8) (f := 3) (fin := 0) (by decide +kernel) (by decide +kernel) (by exact ev_ob_281) rfl ?_
                          intro x67 hx67
                          refine ev_r_virt (pc := 315) (y := 142) (mi := 124) (na := 4) (k := 281) (as := [.int (Int32.ofInt x66), .int (Int32.ofInt 0), .int (Int32.ofInt 0), .int (Int32.ofInt x67)]) (rest := [.ref 281]) (encc := ev_oI) (Q := ev_rng) (fun x S1 h => jt_124 d (by omega) Q x66 0 0 x67 hx66 (by decide) (by decide) hx67 s9 x S1 h) (by exact ev_ob_281) (by decide +kernel) (by decide +kernel) (by decide +kernel) (by decide +kernel) rfl (by (try simp only [ev_sum, ev_nv_cat]); first | done | rfl) ?_
                          intro x69 s68 hx69
                          show ev_w _ _ _ _ _ [.int (Int32.ofInt x69), .ref 281] _ _ _ _
                          refine ev_r_putI (pc := 318) (y := 73) (ci := 8) (f := 4) hx69 (by decide +kernel) (by decide +kernel) (by exact ev_ob_281) rfl rfl ?_
                          intro s70
                          refine ev_r_aload_n (pc := 321) (k := 0) (v := .ref 281) trivial (by decide +kernel) (by exact (ev_l1 (by rfl) (by decide) (by decide))) ?_
                          refine ev_r_iload_n (pc := 322) (k := 1) (v := Int32.ofInt a0) (by decide +kernel) (by exact (ev_lk_st1 (by rfl) (by decide) rfl)) ?_
                          refine ev_r_virt (pc := 323) (y := 175) (mi := 143) (na := 1) (k := 281) (as := [.int (Int32.ofInt a0)]) (rest := []) (encc := ev_oI) (Q := ev_bl) (fun x S1 h => jt_143 d (by omega) Q a0 ha0 s70 x S1 h) (by exact ev_ob_281) (by decide +kernel) (by decide +kernel) (by decide +kernel) (by decide +kernel) rfl (by (try simp only [ev_sum, ev_nv_cat]); first | done | rfl) ?_
                          intro x72 s71 hx72
                          replace hx72 := ev_bl_rng hx72
                          show ev_w _ _ _ _ _ [.int (Int32.ofInt x72)] _ _ _ _
                          refine ev_r_chk ?_
                          intro c73
                          exact ev_r_ireturn (pc := 326) (x := x72) (v := Int32.ofInt x72) (ty := .boolean) c73 (by decide +kernel) (by decide +kernel) (ev_ret_bl c73) rfl
                        · intro c65
                          refine ev_r_ite ?_ ?_
                          · intro c74
                            refine ev_r_sw (pc := 113) (i := (.tableswitch 265 0 15 #[79, 265, 265, 265, 265, 265, 265, 137, 143, 149, 263, 155, 155, 190, 190, 214])) (len := 79) (pc' := 327) (by decide +kernel) (by rw [c74]; rw [ev_pure_tsw]; exact ev_tsw_c (o := 214) (by decide) (by decide) rfl (by decide +kernel)) ?_
                            refine ev_r_aload_n (pc := 327) (k := 0) (v := .ref 281) trivial (by decide +kernel) (by exact (ev_l1 (by rfl) (by decide) (by decide))) ?_
                            refine ev_r_getR (pc := 328) (y := 58) (ci := 8) (f := 0) (fin := 0) (t := 5) (by decide +kernel) (by decide +kernel) (by exact ev_ob_281) rfl rfl ?_
                            intro r75 hr75
                            have hr75 : r75 = 0 ∨ ev_isOb (r75 - 1) 5 = true := hr75
                            refine ev_r_chk ?_
                            intro c76
                            refine ev_r_dr (r := r75) (fun v => [v]) c76 ?_
                            refine ev_r_getC (pc := 331) (y := 178) (ci := 5) (f := 4) (fin := 2) (k' := ((r75 - 1) + 5)) (by decide +kernel) (by decide +kernel) (by exact (hr75.resolve_left c76)) rfl rfl ?_
                            refine ev_r_iload_n (pc := 334) (k := 1) (v := Int32.ofInt a0) (by decide +kernel) (by exact (ev_lk_st1 (by rfl) (by decide) rfl)) ?_
                            refine ev_r_iald (pc := 335) ha0 (by decide +kernel) (by exact (ev_fo_5_4 (hr75.resolve_left c76))) ?_
                            intro x77 hx77
                            refine ev_r_jn (Q := fun K => ∀ (s81 : ev_St) (w78 : List (Nat × Value)), ev_lk w78 0 = some (.ref 281) → ev_lk w78 1 = some (.int (Int32.ofInt a0)) → ev_w none (ev_Mof 136) d 361 w78 [] s81 (K  s81) ev_eI ev_bl) ?_ ?_
                            · intro  s81 w78 e79 e80
                              refine ev_r_aload_n (pc := 361) (k := 0) (v := .ref 281) trivial (by decide +kernel) (by exact e79) ?_
                              refine ev_r_aload_n (pc := 362) (k := 0) (v := .ref 281) trivial (by decide +kernel) (by exact e79) ?_
                              refine ev_r_getR (pc := 363) (y := 58) (ci := 8) (f := 0) (fin := 0) (t := 5) (by decide +kernel) (by decide +kernel) (by exact ev_ob_281) rfl rfl ?_
                              intro r82 hr82
                              have hr82 : r82 = 0 ∨ ev_isOb (r82 - 1) 5 = true := hr82
                              refine ev_r_chk ?_
                              intro c83
                              refine ev_r_dr (r := r82) (fun v => [v, .ref 281]) c83 ?_
                              refine ev_r_getC (pc := 366) (y := 93) (ci := 5) (f := 5) (fin := 2) (k' := ((r82 - 1) + 6)) (by decide +kernel) (by decide +kernel) (by exact (hr82.resolve_left c83)) rfl rfl ?_
                              refine ev_r_iload_n (pc := 369) (k := 1) (v := Int32.ofInt a0) (by decide +kernel) (by exact e80) ?_
                              refine ev_r_iald (pc := 370) ha0 (by decide +kernel) (by exact (ev_fo_5_5 (hr82.resolve_left c83))) ?_
                              intro x84 hx84
                              refine ev_r_putI (pc := 371) (y := 96) (ci := 8) (f := 2) hx84 (by decide +kernel) (by decide +kernel) (by exact ev_ob_281) rfl rfl ?_
                              intro s85
                              refine ev_r_iconst (pc := 374) (k := 1) (by decide +kernel) ?_
                              exact ev_r_ireturn (pc := 375) (x := 1) (v := Int32.ofInt 1) (ty := .boolean) (by decide : ev_bl 1) (by decide +kernel) (by decide +kernel) (ev_ret_bl (by decide : ev_bl 1)) rfl
                            · intro K361 hK361
                              refine ev_r_if (pc := 336) (q := .lt) (o := 25) (t := 361) (c := x77 < 0) (by decide +kernel) (ev_k_lt hx77 ev_rng0) (by decide +kernel) ?_ ?_
                              · intro c86
                                exact hK361  s9 _ (by exact (ev_l1 (by rfl) (by decide) (by decide))) (by exact (ev_lk_st1 (by rfl) (by decide) rfl))
                              · intro c86
                                refine ev_r_aload_n (pc := 339) (k := 0) (v := .ref 281) trivial (by decide +kernel) (by exact (ev_l1 (by rfl) (by decide) (by decide))) ?_
                                refine ev_r_iconst (pc := 340) (k := 0) (by decide +kernel) ?_
                                refine ev_r_iconst (pc := 341) (k := 4) (by decide +kernel) ?_
                                refine ev_r_aload_n (pc := 342) (k := 0) (v := .ref 281) trivial (by decide +kernel) (by exact (ev_l1 (by rfl) (by decide) (by decide))) ?_
                                refine ev_r_getR (pc := 343) (y := 58) (ci := 8) (f := 0) (fin := 0) (t := 5) (by decide +kernel) (by decide +kernel) (by exact ev_ob_281) rfl rfl ?_
                                intro r87 hr87
                                have hr87 : r87 = 0 ∨ ev_isOb (r87 - 1) 5 = true := hr87
                                refine ev_r_chk ?_
                                intro c88
                                refine ev_r_dr (r := r87) (fun v => [v, .int (Int32.ofInt 4), .int (Int32.ofInt 0), .ref 281]) c88 ?_
                                refine ev_r_getC (pc := 346) (y := 178) (ci := 5) (f := 4) (fin := 2) (k' := ((r87 - 1) + 5)) (by decide +kernel) (by decide +kernel) (by exact (hr87.resolve_left c88)) rfl rfl ?_
                                refine ev_r_iload_n (pc := 349) (k := 1) (v := Int32.ofInt a0) (by decide +kernel) (by exact (ev_lk_st1 (by rfl) (by decide) rfl)) ?_
                                refine ev_r_iald (pc := 350) ha0 (by decide +kernel) (by exact (ev_fo_5_4 (hr87.resolve_left c88))) ?_
                                intro x89 hx89
                                refine ev_r_imul (pc := 351) (by decide +kernel) ?_
                                intro x90 hx90
                                refine ev_r_iconst (pc := 352) (k := 0) (by decide +kernel) ?_
                                refine ev_r_iadd (pc := 353) (by decide +kernel) ?_
                                intro x91 hx91
                                refine ev_r_aload_n (pc := 354) (k := 0) (v := .ref 281) trivial (by decide +kernel) (by exact (ev_l1 (by rfl) (by decide) (by decide))) ?_
                                refine ev_r_getI (pc := 355) (y := 73) (ci := 8) (f := 4) (fin := 0) (by decide +kernel) (by decide +kernel) (by exact ev_ob_281) rfl ?_
                                intro x92 hx92
                                refine ev_r_virt (pc := 358) (y := 172) (mi := 130) (na := 3) (k := 281) (as := [.int (Int32.ofInt 0), .int (Int32.ofInt x91), .int (Int32.ofInt x92)]) (rest := []) (encc := ev_oU) (Q := ev_PU) (fun x S1 h => jt_130 d (by omega) Q 0 x91 x92 (by decide) hx91 hx92 s9 x S1 h) (by exact ev_ob_281) (by decide +kernel) (by decide +kernel) (by decide +kernel) (by decide +kernel) rfl (by (try simp only [ev_sum, ev_nv_cat]); first | done | rfl) ?_
                                intro _ s93 _
                                show ev_w _ _ _ _ _ [] _ _ _ _
                                exact hK361  s93 _ (by exact (ev_l1 (by rfl) (by decide) (by decide))) (by exact (ev_lk_st1 (by rfl) (by decide) rfl))
                          · intro c74
                            refine ev_r_sw (pc := 113) (i := (.tableswitch 265 0 15 #[79, 265, 265, 265, 265, 265, 265, 137, 143, 149, 263, 155, 155, 190, 190, 214])) (len := 79) (pc' := 378) (by decide +kernel) (by rw [ev_pure_tsw]; exact ev_tsw_d hx3 (by omega) (by decide +kernel)) ?_
                            refine ev_r_aload_n (pc := 378) (k := 0) (v := .ref 281) trivial (by decide +kernel) (by exact (ev_l1 (by rfl) (by decide) (by decide))) ?_
                            refine ev_r_iload_n (pc := 379) (k := 1) (v := Int32.ofInt a0) (by decide +kernel) (by exact (ev_lk_st1 (by rfl) (by decide) rfl)) ?_
                            refine ev_r_virt (pc := 380) (y := 181) (mi := 140) (na := 1) (k := 281) (as := [.int (Int32.ofInt a0)]) (rest := []) (encc := ev_oI) (Q := ev_bl) (fun x S1 h => jt_140 d (by omega) Q a0 ha0 s9 x S1 h) (by exact ev_ob_281) (by decide +kernel) (by decide +kernel) (by decide +kernel) (by decide +kernel) rfl (by (try simp only [ev_sum, ev_nv_cat]); first | done | rfl) ?_
                            intro x95 s94 hx95
                            replace hx95 := ev_bl_rng hx95
                            show ev_w _ _ _ _ _ [.int (Int32.ofInt x95)] _ _ _ _
                            refine ev_r_chk ?_
                            intro c96
                            exact ev_r_ireturn (pc := 383) (x := x95) (v := Int32.ofInt x95) (ty := .boolean) c96 (by decide +kernel) (by decide +kernel) (ev_ret_bl c96) rfl
        · intro c11
          refine ev_r_aload_n (pc := 86) (k := 0) (v := .ref 281) trivial (by decide +kernel) (by exact (ev_l1 (by rfl) (by decide) (by decide))) ?_
          refine ev_r_aload_n (pc := 87) (k := 0) (v := .ref 281) trivial (by decide +kernel) (by exact (ev_l1 (by rfl) (by decide) (by decide))) ?_
          refine ev_r_getR (pc := 88) (y := 58) (ci := 8) (f := 0) (fin := 0) (t := 5) (by decide +kernel) (by decide +kernel) (by exact ev_ob_281) rfl rfl ?_
          intro r97 hr97
          have hr97 : r97 = 0 ∨ ev_isOb (r97 - 1) 5 = true := hr97
          refine ev_r_chk ?_
          intro c98
          refine ev_r_dr (r := r97) (fun v => [v, .ref 281]) c98 ?_
          refine ev_r_getC (pc := 91) (y := 139) (ci := 5) (f := 6) (fin := 2) (k' := ((r97 - 1) + 7)) (by decide +kernel) (by decide +kernel) (by exact (hr97.resolve_left c98)) rfl rfl ?_
          refine ev_r_iload_n (pc := 94) (k := 1) (v := Int32.ofInt a0) (by decide +kernel) (by exact (ev_lk_st1 (by rfl) (by decide) rfl)) ?_
          refine ev_r_iald (pc := 95) ha0 (by decide +kernel) (by exact (ev_fo_5_6 (hr97.resolve_left c98))) ?_
          intro x99 hx99
          refine ev_r_putI (pc := 96) (y := 96) (ci := 8) (f := 2) hx99 (by decide +kernel) (by decide +kernel) (by exact ev_ob_281) rfl rfl ?_
          intro s100
          refine ev_r_aload_n (pc := 99) (k := 0) (v := .ref 281) trivial (by decide +kernel) (by exact (ev_l1 (by rfl) (by decide) (by decide))) ?_
          refine ev_r_getR (pc := 100) (y := 27) (ci := 8) (f := 1) (fin := 0) (t := 10) (by decide +kernel) (by decide +kernel) (by exact ev_ob_281) rfl rfl ?_
          intro r101 hr101
          have hr101 : r101 = 0 ∨ ev_isOb (r101 - 1) 10 = true := hr101
          refine ev_r_iload_n (pc := 103) (k := 2) (v := Int32.ofInt x3) (by decide +kernel) (by exact ev_lk_st1_self) ?_
          refine ev_r_aload_n (pc := 104) (k := 0) (v := .ref 281) trivial (by decide +kernel) (by exact (ev_l1 (by rfl) (by decide) (by decide))) ?_
          refine ev_r_getI (pc := 105) (y := 70) (ci := 8) (f := 3) (fin := 0) (by decide +kernel) (by decide +kernel) (by exact ev_ob_281) rfl ?_
          intro x102 hx102
          refine ev_r_chk ?_
          intro c103
          refine ev_r_dr (r := r101) (fun v => [.int (Int32.ofInt x102), .int (Int32.ofInt x3), v]) c103 ?_
          refine ev_r_virt (pc := 108) (y := 148) (mi := 155) (na := 2) (k := (r101 - 1)) (as := [.int (Int32.ofInt x3), .int (Int32.ofInt x102)]) (rest := []) (encc := ev_oI) (Q := ev_bl) (fun x S1 h => jt_155 d (by omega) Q ((r101 - 1)) x3 x102 (hr101.resolve_left c103) hx3 hx102 s100 x S1 h) (by exact (hr101.resolve_left c103)) (by decide +kernel) (by decide +kernel) (by decide +kernel) (by decide +kernel) rfl (by (try simp only [ev_sum, ev_nv_cat]); first | done | rfl) ?_
          intro x105 s104 hx105
          replace hx105 := ev_bl_rng hx105
          show ev_w _ _ _ _ _ [.int (Int32.ofInt x105)] _ _ _ _
          refine ev_r_chk ?_
          intro c106
          exact ev_r_ireturn (pc := 111) (x := x105) (v := Int32.ofInt x105) (ty := .boolean) c106 (by decide +kernel) (by decide +kernel) (ev_ret_bl c106) rfl
      · intro c8
        refine ev_r_iconst (pc := 77) (k := 0) (by decide +kernel) ?_
        exact ev_r_ireturn (pc := 78) (x := 0) (v := Int32.ofInt 0) (ty := .boolean) (by decide : ev_bl 0) (by decide +kernel) (by decide +kernel) (ev_ret_bl (by decide : ev_bl 0)) rfl
    · intro c5
      refine ev_r_aload_n (pc := 37) (k := 0) (v := .ref 281) trivial (by decide +kernel) (by exact (ev_l1 (by rfl) (by decide) (by decide))) ?_
      refine ev_r_aload_n (pc := 38) (k := 0) (v := .ref 281) trivial (by decide +kernel) (by exact (ev_l1 (by rfl) (by decide) (by decide))) ?_
      refine ev_r_aload_n (pc := 39) (k := 0) (v := .ref 281) trivial (by decide +kernel) (by exact (ev_l1 (by rfl) (by decide) (by decide))) ?_
      refine ev_r_getI (pc := 40) (y := 73) (ci := 8) (f := 4) (fin := 0) (by decide +kernel) (by decide +kernel) (by exact ev_ob_281) rfl ?_
      intro x107 hx107
      refine ev_r_iconst (pc := 43) (k := 1) (by decide +kernel) ?_
      refine ev_r_aload_n (pc := 44) (k := 0) (v := .ref 281) trivial (by decide +kernel) (by exact (ev_l1 (by rfl) (by decide) (by decide))) ?_
      refine ev_r_getI (pc := 45) (y := 70) (ci := 8) (f := 3) (fin := 0) (by decide +kernel) (by decide +kernel) (by exact ev_ob_281) rfl ?_
      intro x108 hx108
      refine ev_r_iconst (pc := 48) (k := 0) (by decide +kernel) ?_
      refine ev_r_virt (pc := 49) (y := 142) (mi := 124) (na := 4) (k := 281) (as := [.int (Int32.ofInt x107), .int (Int32.ofInt 1), .int (Int32.ofInt x108), .int (Int32.ofInt 0)]) (rest := [.ref 281]) (encc := ev_oI) (Q := ev_rng) (fun x S1 h => jt_124 d (by omega) Q x107 1 x108 0 hx107 (by decide) hx108 (by decide) S x S1 h) (by exact ev_ob_281) (by decide +kernel) (by decide +kernel) (by decide +kernel) (by decide +kernel) rfl (by (try simp only [ev_sum, ev_nv_cat]); first | done | rfl) ?_
      intro x110 s109 hx110
      show ev_w _ _ _ _ _ [.int (Int32.ofInt x110), .ref 281] _ _ _ _
      refine ev_r_putI (pc := 52) (y := 73) (ci := 8) (f := 4) hx110 (by decide +kernel) (by decide +kernel) (by exact ev_ob_281) rfl rfl ?_
      intro s111
      refine ev_r_aload_n (pc := 55) (k := 0) (v := .ref 281) trivial (by decide +kernel) (by exact (ev_l1 (by rfl) (by decide) (by decide))) ?_
      refine ev_r_aload_n (pc := 56) (k := 0) (v := .ref 281) trivial (by decide +kernel) (by exact (ev_l1 (by rfl) (by decide) (by decide))) ?_
      refine ev_r_getR (pc := 57) (y := 58) (ci := 8) (f := 0) (fin := 0) (t := 5) (by decide +kernel) (by decide +kernel) (by exact ev_ob_281) rfl rfl ?_
      intro r112 hr112
      have hr112 : r112 = 0 ∨ ev_isOb (r112 - 1) 5 = true := hr112
      refine ev_r_chk ?_
      intro c113
      refine ev_r_dr (r := r112) (fun v => [v, .ref 281]) c113 ?_
      refine ev_r_getC (pc := 60) (y := 93) (ci := 5) (f := 5) (fin := 2) (k' := ((r112 - 1) + 6)) (by decide +kernel) (by decide +kernel) (by exact (hr112.resolve_left c113)) rfl rfl ?_
      refine ev_r_iload_n (pc := 63) (k := 1) (v := Int32.ofInt a0) (by decide +kernel) (by exact (ev_lk_st1 (by rfl) (by decide) rfl)) ?_
      refine ev_r_iald (pc := 64) ha0 (by decide +kernel) (by exact (ev_fo_5_5 (hr112.resolve_left c113))) ?_
      intro x114 hx114
      refine ev_r_putI (pc := 65) (y := 96) (ci := 8) (f := 2) hx114 (by decide +kernel) (by decide +kernel) (by exact ev_ob_281) rfl rfl ?_
      intro s115
      refine ev_r_iconst (pc := 68) (k := 1) (by decide +kernel) ?_
      exact ev_r_ireturn (pc := 69) (x := 1) (v := Int32.ofInt 1) (ty := .boolean) (by decide : ev_bl 1) (by decide +kernel) (by decide +kernel) (ev_ret_bl (by decide : ev_bl 1)) rfl
  · intro c4
    refine ev_r_aload_n (pc := 16) (k := 0) (v := .ref 281) trivial (by decide +kernel) (by exact (ev_l1 (by rfl) (by decide) (by decide))) ?_
    refine ev_r_aload_n (pc := 17) (k := 0) (v := .ref 281) trivial (by decide +kernel) (by exact (ev_l1 (by rfl) (by decide) (by decide))) ?_
    refine ev_r_getR (pc := 18) (y := 58) (ci := 8) (f := 0) (fin := 0) (t := 5) (by decide +kernel) (by decide +kernel) (by exact ev_ob_281) rfl rfl ?_
    intro r116 hr116
    have hr116 : r116 = 0 ∨ ev_isOb (r116 - 1) 5 = true := hr116
    refine ev_r_chk ?_
    intro c117
    refine ev_r_dr (r := r116) (fun v => [v, .ref 281]) c117 ?_
    refine ev_r_getC (pc := 21) (y := 93) (ci := 5) (f := 5) (fin := 2) (k' := ((r116 - 1) + 6)) (by decide +kernel) (by decide +kernel) (by exact (hr116.resolve_left c117)) rfl rfl ?_
    refine ev_r_iload_n (pc := 24) (k := 1) (v := Int32.ofInt a0) (by decide +kernel) (by exact (ev_lk_st1 (by rfl) (by decide) rfl)) ?_
    refine ev_r_iald (pc := 25) ha0 (by decide +kernel) (by exact (ev_fo_5_5 (hr116.resolve_left c117))) ?_
    intro x118 hx118
    refine ev_r_putI (pc := 26) (y := 96) (ci := 8) (f := 2) hx118 (by decide +kernel) (by decide +kernel) (by exact ev_ob_281) rfl rfl ?_
    intro s119
    refine ev_r_iconst (pc := 29) (k := 1) (by decide +kernel) ?_
    exact ev_r_ireturn (pc := 30) (x := 1) (v := Int32.ofInt 1) (ty := .boolean) (by decide : ev_bl 1) (by decide +kernel) (by decide +kernel) (ev_ret_bl (by decide : ev_bl 1)) rfl
