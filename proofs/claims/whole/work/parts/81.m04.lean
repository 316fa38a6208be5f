/-! METHODS as functions, laid by decomp.py -/
theorem ev_ob_272 : ev_isOb 272 10 = true := (by decide +kernel)
theorem ev_fo_5_10 {k : Nat} (h : ev_isOb k 5 = true) : ev_isAb (k + 11) 1 .int = true := ev_foA (by decide +kernel) h
theorem ev_on_8 {k : Nat} (h : ev_isOb k 8 = true) : k = 281 := ev_only (by decide +kernel) h
theorem ev_ab_277 : ev_isAb 277 1 .int = true := (by decide +kernel)
theorem ev_ab_278 : ev_isAb 278 1 .int = true := (by decide +kernel)
theorem ev_ab_279 : ev_isAb 279 1 .int = true := (by decide +kernel)
theorem ev_ab_273 : ev_isAb 273 1 .int = true := (by decide +kernel)
theorem ev_ab_280 : ev_isAb 280 1 .int = true := (by decide +kernel)
/-- MendBench$Search.call(I)Z -/
def jm_139 (Q : Nat) (a0 : Int) (S : ev_St) : Option ((Int) × ev_St) := ev_b (S.2.2.1 281 0) fun r1 => ev_if (r1 ≠ 0) (ev_if ((0 : Int) ≤ a0 ∧ a0 < (ev_aln (((r1 - 1) + 2)) : Int)) (ev_b (S.1 (((r1 - 1) + 2)) (Int.toNat a0)) fun x3 => ev_jn (fun (x4 : Int) (s8 : ev_St) => ev_bd (jm_127 Q  s8) fun x10 s9 => if 20 ≤ x10 then (some (0, s9)) else (ev_b (s9.2.2.1 281 0) fun r12 => ev_if (r12 ≠ 0) (ev_bd (jm_59 Q ((r12 - 1)) x4 s9) fun x15 s14 => if x15 ≠ 0 then (ev_b (s14.1 281 4) fun x17 => ev_b (s14.2.2.1 281 0) fun r18 => ev_if (r18 ≠ 0) (ev_if ((0 : Int) ≤ a0 ∧ a0 < (ev_aln (((r18 - 1) + 7)) : Int)) (ev_b (s14.1 (((r18 - 1) + 7)) (Int.toNat a0)) fun x20 => ev_b (s14.1 281 5) fun x21 => ev_bd (jm_124 Q x17 2 x20 x21 s14) fun x23 s22 => ev_b (ev_pI s22 281 4 x23) fun s24 => ev_b (s24.2.2.1 281 0) fun r25 => ev_if (r25 ≠ 0) (ev_if ((0 : Int) ≤ x4 ∧ x4 < (ev_aln (((r25 - 1) + 6)) : Int)) (ev_b (s24.1 (((r25 - 1) + 6)) (Int.toNat x4)) fun x27 => ev_b (ev_pI s24 281 2 x27) fun s28 => some (1, s28)))))) else (some (0, s14))))) fun K33 => ev_jn (fun  (s32 : ev_St) => K33 ((-1)) s32) fun K32 => if x3 < 0 then (K32  S) else (if 9 < x3 then (K32  S) else (ev_b (S.2.2.1 281 0) fun r35 => ev_if (r35 ≠ 0) (ev_if ((0 : Int) ≤ x3 ∧ x3 < (ev_aln (((r35 - 1) + 10)) : Int)) (ev_b (S.1 (((r35 - 1) + 10)) (Int.toNat x3)) fun x37 => K33 x37 S))))))
theorem jt_139 (d : Nat) (hd : 3 ≤ d) (Q : Nat) (a0 : Int) (ha0 : ev_rng a0) (S : ev_St) (x : Int) (S' : ev_St) (hJ : jm_139 Q a0 S = some (x, S')) : ev_Ref d 139 [.ref 281, .int (Int32.ofInt a0)] S (ev_eI x) S' (ev_bl x) := by
  obtain ⟨d, rfl⟩ : ∃ e, d = e + 1 := ⟨d - 1, by omega⟩
  refine ev_ref_of (P := ev_bl) (lv := [(0, .ref 281), (1, .int (Int32.ofInt a0))]) (by decide +kernel) (by (try simp only [ev_sum, ev_nv_cat]); first | done | rfl) (by (try simp only [lv_args, ev_nv_cat]); first | done | rfl) ?_ x S' hJ
  unfold jm_139
  refine ev_r_aload_n (pc := 0) (k := 0) (v := .ref 281) trivial (by decide +kernel) (by rfl) ?_
  refine ev_r_getR (pc := 1) (y := 58) (ci := 8) (f := 0) (fin := 0) (t := 5) (by decide +kernel) (by decide +kernel) (by exact ev_ob_281) rfl rfl ?_
  intro r1 hr1
  have hr1 : r1 = 0 ∨ ev_isOb (r1 - 1) 5 = true := hr1
  refine ev_r_chk ?_
  intro c2
  refine ev_r_dr (r := r1) (fun v => [v]) c2 ?_
  refine ev_r_getC (pc := 4) (y := 184) (ci := 5) (f := 1) (fin := 2) (k' := ((r1 - 1) + 2)) (by decide +kernel) (by decide +kernel) (by exact (hr1.resolve_left c2)) rfl rfl ?_
  refine ev_r_iload_n (pc := 7) (k := 1) (v := Int32.ofInt a0) (by decide +kernel) (by rfl) ?_
  refine ev_r_iald (pc := 8) ha0 (by decide +kernel) (by exact (ev_fo_5_1 (hr1.resolve_left c2))) ?_
  intro x3 hx3
  refine ev_r_istore_n (pc := 9) (k := 2) (by decide +kernel) (by decide +kernel) rfl ?_
  refine ev_r_iload_n (pc := 10) (k := 2) (v := Int32.ofInt x3) (by decide +kernel) (by exact ev_lk_st1_self) ?_
  refine ev_r_jn (Q := fun K => ∀ (x4 : Int) (hx4 : ev_rng x4), ∀ (s8 : ev_St) (w5 : List (Nat × Value)), ev_lk w5 0 = some (.ref 281) → ev_lk w5 1 = some (.int (Int32.ofInt a0)) → ev_w none (ev_Mof 139) d 33 w5 [.int (Int32.ofInt x4)] s8 (K x4 s8) ev_eI ev_bl) ?_ ?_
  · intro x4 hx4 s8 w5 e6 e7
    refine ev_r_istore_n (pc := 33) (k := 3) (by decide +kernel) (by decide +kernel) rfl ?_
    refine ev_r_aload_n (pc := 34) (k := 0) (v := .ref 281) trivial (by decide +kernel) (by exact (ev_l1 e6 (by decide) (by decide))) ?_
    refine ev_r_virt (pc := 35) (y := 199) (mi := 127) (na := 0) (k := 281) (as := []) (rest := []) (encc := ev_oI) (Q := ev_rng) (fun x S1 h => jt_127 d (by omega) Q   s8 x S1 h) (by exact ev_ob_281) (by decide +kernel) (by decide +kernel) (by decide +kernel) (by decide +kernel) rfl (by (try simp only [ev_sum, ev_nv_cat]); first | done | rfl) ?_
    intro x10 s9 hx10
    show ev_w _ _ _ _ _ [.int (Int32.ofInt x10)] _ _ _ _
    refine ev_r_bipush (pc := 38) (k := 20) (by decide +kernel) (by decide +kernel) ?_
    refine ev_r_icmp (pc := 40) (q := .ge) (o := 14) (t := 54) (c := 20 ≤ x10) (by decide +kernel) (ev_k_ge hx10 (by decide)) (by decide +kernel) ?_ ?_
    · intro c11
      refine ev_r_iconst (pc := 54) (k := 0) (by decide +kernel) ?_
      exact ev_r_ireturn (pc := 55) (x := 0) (v := Int32.ofInt 0) (ty := .boolean) (by decide : ev_bl 0) (by decide +kernel) (by decide +kernel) (ev_ret_bl (by decide : ev_bl 0)) rfl
    · intro c11
      refine ev_r_aload_n (pc := 43) (k := 0) (v := .ref 281) trivial (by decide +kernel) (by exact (ev_l1 e6 (by decide) (by decide))) ?_
      refine ev_r_getR (pc := 44) (y := 58) (ci := 8) (f := 0) (fin := 0) (t := 5) (by decide +kernel) (by decide +kernel) (by exact ev_ob_281) rfl rfl ?_
      intro r12 hr12
      have hr12 : r12 = 0 ∨ ev_isOb (r12 - 1) 5 = true := hr12
      refine ev_r_iload_n (pc := 47) (k := 3) (v := Int32.ofInt x4) (by decide +kernel) (by exact ev_lk_st1_self) ?_
      refine ev_r_chk ?_
      intro c13
      refine ev_r_dr (r := r12) (fun v => [.int (Int32.ofInt x4), v]) c13 ?_
      refine ev_r_virt (pc := 48) (y := 89) (mi := 59) (na := 1) (k := (r12 - 1)) (as := [.int (Int32.ofInt x4)]) (rest := []) (encc := ev_oI) (Q := ev_bl) (fun x S1 h => jt_59 d (by omega) Q ((r12 - 1)) x4 (hr12.resolve_left c13) hx4 s9 x S1 h) (by exact (hr12.resolve_left c13)) (by decide +kernel) (by decide +kernel) (by decide +kernel) (by decide +kernel) rfl (by (try simp only [ev_sum, ev_nv_cat]); first | done | rfl) ?_
      intro x15 s14 hx15
      replace hx15 := ev_bl_rng hx15
      show ev_w _ _ _ _ _ [.int (Int32.ofInt x15)] _ _ _ _
      refine ev_r_if (pc := 51) (q := .ne) (o := 5) (t := 56) (c := x15 ≠ 0) (by decide +kernel) (ev_k_ne hx15 ev_rng0) (by decide +kernel) ?_ ?_
      · intro c16
        refine ev_r_aload_n (pc := 56) (k := 0) (v := .ref 281) trivial (by decide +kernel) (by exact (ev_l1 e6 (by decide) (by decide))) ?_
        refine ev_r_aload_n (pc := 57) (k := 0) (v := .ref 281) trivial (by decide +kernel) (by exact (ev_l1 e6 (by decide) (by decide))) ?_
        refine ev_r_aload_n (pc := 58) (k := 0) (v := .ref 281) trivial (by decide +kernel) (by exact (ev_l1 e6 (by decide) (by decide))) ?_
        refine ev_r_getI (pc := 59) (y := 73) (ci := 8) (f := 4) (fin := 0) (by decide +kernel) (by decide +kernel) (by exact ev_ob_281) rfl ?_
        intro x17 hx17
        refine ev_r_iconst (pc := 62) (k := 2) (by decide +kernel) ?_
        refine ev_r_aload_n (pc := 63) (k := 0) (v := .ref 281) trivial (by decide +kernel) (by exact (ev_l1 e6 (by decide) (by decide))) ?_
        refine ev_r_getR (pc := 64) (y := 58) (ci := 8) (f := 0) (fin := 0) (t := 5) (by decide +kernel) (by decide +kernel) (by exact ev_ob_281) rfl rfl ?_
        intro r18 hr18
        have hr18 : r18 = 0 ∨ ev_isOb (r18 - 1) 5 = true := hr18
        refine ev_r_chk ?_
        intro c19
        refine ev_r_dr (r := r18) (fun v => [v, .int (Int32.ofInt 2), .int (Int32.ofInt x17), .ref 281, .ref 281]) c19 ?_
        refine ev_r_getC (pc := 67) (y := 139) (ci := 5) (f := 6) (fin := 2) (k' := ((r18 - 1) + 7)) (by decide +kernel) (by decide +kernel) (by exact (hr18.resolve_left c19)) rfl rfl ?_
        refine ev_r_iload_n (pc := 70) (k := 1) (v := Int32.ofInt a0) (by decide +kernel) (by exact (ev_l1 e7 (by decide) (by decide))) ?_
        refine ev_r_iald (pc := 71) ha0 (by decide +kernel) (by exact (ev_fo_5_6 (hr18.resolve_left c19))) ?_
        intro x20 hx20
        refine ev_r_aload_n (pc := 72) (k := 0) (v := .ref 281) trivial (by decide +kernel) (by exact (ev_l1 e6 (by decide) (by decide))) ?_
        refine ev_r_getI (pc := 73) (y := 76) (ci := 8) (f := 5) (fin := 0) (by decide +kernel) (by decide +kernel) (by exact ev_ob_281) rfl ?_
        intro x21 hx21
        refine ev_r_virt (pc := 76) (y := 142) (mi := 124) (na := 4) (k := 281) (as := [.int (Int32.ofInt x17), .int (Int32.ofInt 2), .int (Int32.ofInt x20), .int (Int32.ofInt x21)]) (rest := [.ref 281]) (encc := ev_oI) (Q := ev_rng) (fun x S1 h => jt_124 d (by omega) Q x17 2 x20 x21 hx17 (by decide) hx20 hx21 s14 x S1 h) (by exact ev_ob_281) (by decide +kernel) (by decide +kernel) (by decide +kernel) (by decide +kernel) rfl (by (try simp only [ev_sum, ev_nv_cat]); first | done | rfl) ?_
        intro x23 s22 hx23
        show ev_w _ _ _ _ _ [.int (Int32.ofInt x23), .ref 281] _ _ _ _
        refine ev_r_putI (pc := 79) (y := 73) (ci := 8) (f := 4) hx23 (by decide +kernel) (by decide +kernel) (by exact ev_ob_281) rfl rfl ?_
        intro s24
        refine ev_r_aload_n (pc := 82) (k := 0) (v := .ref 281) trivial (by decide +kernel) (by exact (ev_l1 e6 (by decide) (by decide))) ?_
        refine ev_r_aload_n (pc := 83) (k := 0) (v := .ref 281) trivial (by decide +kernel) (by exact (ev_l1 e6 (by decide) (by decide))) ?_
        refine ev_r_getR (pc := 84) (y := 58) (ci := 8) (f := 0) (fin := 0) (t := 5) (by decide +kernel) (by decide +kernel) (by exact ev_ob_281) rfl rfl ?_
        intro r25 hr25
        have hr25 : r25 = 0 ∨ ev_isOb (r25 - 1) 5 = true := hr25
        refine ev_r_chk ?_
        intro c26
        refine ev_r_dr (r := r25) (fun v => [v, .ref 281]) c26 ?_
        refine ev_r_getC (pc := 87) (y := 93) (ci := 5) (f := 5) (fin := 2) (k' := ((r25 - 1) + 6)) (by decide +kernel) (by decide +kernel) (by exact (hr25.resolve_left c26)) rfl rfl ?_
        refine ev_r_iload_n (pc := 90) (k := 3) (v := Int32.ofInt x4) (by decide +kernel) (by exact ev_lk_st1_self) ?_
        refine ev_r_iald (pc := 91) hx4 (by decide +kernel) (by exact (ev_fo_5_5 (hr25.resolve_left c26))) ?_
        intro x27 hx27
        refine ev_r_putI (pc := 92) (y := 96) (ci := 8) (f := 2) hx27 (by decide +kernel) (by decide +kernel) (by exact ev_ob_281) rfl rfl ?_
        intro s28
        refine ev_r_iconst (pc := 95) (k := 1) (by decide +kernel) ?_
        exact ev_r_ireturn (pc := 96) (x := 1) (v := Int32.ofInt 1) (ty := .boolean) (by decide : ev_bl 1) (by decide +kernel) (by decide +kernel) (ev_ret_bl (by decide : ev_bl 1)) rfl
      · intro c16
        refine ev_r_iconst (pc := 54) (k := 0) (by decide +kernel) ?_
        exact ev_r_ireturn (pc := 55) (x := 0) (v := Int32.ofInt 0) (ty := .boolean) (by decide : ev_bl 0) (by decide +kernel) (by decide +kernel) (ev_ret_bl (by decide : ev_bl 0)) rfl
  · intro K33 hK33
    refine ev_r_jn (Q := fun K => ∀ (s32 : ev_St) (w29 : List (Nat × Value)), ev_lk w29 0 = some (.ref 281) → ev_lk w29 1 = some (.int (Int32.ofInt a0)) → ev_w none (ev_Mof 139) d 32 w29 [] s32 (K  s32) ev_eI ev_bl) ?_ ?_
    · intro  s32 w29 e30 e31
      refine ev_r_iconst (pc := 32) (k := -1) (by decide +kernel) ?_
      exact hK33 ((-1)) (by decide) s32 _ (by exact e30) (by exact e31)
    · intro K32 hK32
      refine ev_r_if (pc := 11) (q := .lt) (o := 21) (t := 32) (c := x3 < 0) (by decide +kernel) (ev_k_lt hx3 ev_rng0) (by decide +kernel) ?_ ?_
      · intro c33
        exact hK32  S _ (by exact (ev_l1 (by rfl) (by decide) (by decide))) (by exact (ev_lk_st1 (by rfl) (by decide) rfl))
      · intro c33
        refine ev_r_iload_n (pc := 14) (k := 2) (v := Int32.ofInt x3) (by decide +kernel) (by exact ev_lk_st1_self) ?_
        refine ev_r_bipush (pc := 15) (k := 9) (by decide +kernel) (by decide +kernel) ?_
        refine ev_r_icmp (pc := 17) (q := .gt) (o := 15) (t := 32) (c := 9 < x3) (by decide +kernel) (ev_k_gt hx3 (by decide)) (by decide +kernel) ?_ ?_
        · intro c34
          exact hK32  S _ (by exact (ev_l1 (by rfl) (by decide) (by decide))) (by exact (ev_lk_st1 (by rfl) (by decide) rfl))
        · intro c34
          refine ev_r_aload_n (pc := 20) (k := 0) (v := .ref 281) trivial (by decide +kernel) (by exact (ev_l1 (by rfl) (by decide) (by decide))) ?_
          refine ev_r_getR (pc := 21) (y := 58) (ci := 8) (f := 0) (fin := 0) (t := 5) (by decide +kernel) (by decide +kernel) (by exact ev_ob_281) rfl rfl ?_
          intro r35 hr35
          have hr35 : r35 = 0 ∨ ev_isOb (r35 - 1) 5 = true := hr35
          refine ev_r_chk ?_
          intro c36
          refine ev_r_dr (r := r35) (fun v => [v]) c36 ?_
          refine ev_r_getC (pc := 24) (y := 196) (ci := 5) (f := 9) (fin := 2) (k' := ((r35 - 1) + 10)) (by decide +kernel) (by decide +kernel) (by exact (hr35.resolve_left c36)) rfl rfl ?_
          refine ev_r_iload_n (pc := 27) (k := 2) (v := Int32.ofInt x3) (by decide +kernel) (by exact ev_lk_st1_self) ?_
          refine ev_r_iald (pc := 28) hx3 (by decide +kernel) (by exact (ev_fo_5_9 (hr35.resolve_left c36))) ?_
          intro x37 hx37
          refine ev_r_goto (pc := 29) (o := 4) (t := 33) (by decide +kernel) (by decide +kernel) ?_
          exact hK33 x37 hx37 S _ (by exact (ev_l1 (by rfl) (by decide) (by decide))) (by exact (ev_lk_st1 (by rfl) (by decide) rfl))
/-- MendBench$Search.keep(III)V -/
def jm_130 (Q : Nat) (a0 : Int) (a1 : Int) (a2 : Int) (S : ev_St) : Option ((Unit) × ev_St) := ev_b (S.1 281 9) fun x1 => ev_ck (6 * x1) fun x2 => ev_b (S.1 281 9) fun x3 => if x3 < 0 then (some ((), S)) else (ev_ck (x2 + 6) fun x5 => ev_b (ev_aln 283 : Int) fun x6 => if x5 ≤ x6 then (ev_if ((0 : Int) ≤ x2 ∧ x2 < (ev_aln 283 : Int)) (ev_b (ev_pI S 283 (Int.toNat x2) a0) fun s8 => ev_ck (x2 + 1) fun x9 => ev_if ((0 : Int) ≤ x9 ∧ x9 < (ev_aln 283 : Int)) (ev_b (ev_pI s8 283 (Int.toNat x9) a1) fun s10 => ev_ck (x2 + 2) fun x11 => ev_b (s10.1 281 3) fun x12 => ev_if ((0 : Int) ≤ x11 ∧ x11 < (ev_aln 283 : Int)) (ev_b (ev_pI s10 283 (Int.toNat x11) x12) fun s13 => ev_ck (x2 + 3) fun x14 => ev_if ((0 : Int) ≤ x14 ∧ x14 < (ev_aln 283 : Int)) (ev_b (ev_pI s13 283 (Int.toNat x14) a2) fun s15 => ev_ck (x2 + 4) fun x16 => ev_b (s15.1 281 5) fun x17 => ev_if ((0 : Int) ≤ x16 ∧ x16 < (ev_aln 283 : Int)) (ev_b (ev_pI s15 283 (Int.toNat x16) x17) fun s18 => ev_ck (x2 + 5) fun x19 => ev_b (s18.1 281 7) fun x20 => ev_if ((0 : Int) ≤ x19 ∧ x19 < (ev_aln 283 : Int)) (ev_b (ev_pI s18 283 (Int.toNat x19) x20) fun s21 => ev_b (s21.1 281 9) fun x22 => ev_ck (x22 + 1) fun x23 => ev_b (ev_pI s21 281 9 x23) fun s24 => some ((), s24)))))))) else (some ((), S)))
theorem jt_130 (d : Nat) (hd : 1 ≤ d) (Q : Nat) (a0 : Int) (a1 : Int) (a2 : Int) (ha0 : ev_rng a0) (ha1 : ev_rng a1) (ha2 : ev_rng a2) (S : ev_St) (x : Unit) (S' : ev_St) (hJ : jm_130 Q a0 a1 a2 S = some (x, S')) : ev_Ref d 130 [.ref 281, .int (Int32.ofInt a0), .int (Int32.ofInt a1), .int (Int32.ofInt a2)] S (ev_eU x) S' (ev_PU x) := by
  obtain ⟨d, rfl⟩ : ∃ e, d = e + 1 := ⟨d - 1, by omega⟩
  refine ev_ref_of (P := ev_PU) (lv := [(0, .ref 281), (1, .int (Int32.ofInt a0)), (2, .int (Int32.ofInt a1)), (3, .int (Int32.ofInt a2))]) (by decide +kernel) (by (try simp only [ev_sum, ev_nv_cat]); first | done | rfl) (by (try simp only [lv_args, ev_nv_cat]); first | done | rfl) ?_ x S' hJ
  unfold jm_130
  refine ev_r_bipush (pc := 0) (k := 6) (by decide +kernel) (by decide +kernel) ?_
  refine ev_r_aload_n (pc := 2) (k := 0) (v := .ref 281) trivial (by decide +kernel) (by rfl) ?_
  refine ev_r_getI (pc := 3) (y := 82) (ci := 8) (f := 9) (fin := 0) (by decide +kernel) (by decide +kernel) (by exact ev_ob_281) rfl ?_
  intro x1 hx1
  refine ev_r_imul (pc := 6) (by decide +kernel) ?_
  intro x2 hx2
  refine ev_r_istore (pc := 7) (k := 4) (by decide +kernel) (by decide +kernel) rfl ?_
  refine ev_r_aload_n (pc := 9) (k := 0) (v := .ref 281) trivial (by decide +kernel) (by exact (ev_l1 (by rfl) (by decide) (by decide))) ?_
  refine ev_r_getI (pc := 10) (y := 82) (ci := 8) (f := 9) (fin := 0) (by decide +kernel) (by decide +kernel) (by exact ev_ob_281) rfl ?_
  intro x3 hx3
  refine ev_r_if (pc := 13) (q := .lt) (o := 16) (t := 29) (c := x3 < 0) (by decide +kernel) (ev_k_lt hx3 ev_rng0) (by decide +kernel) ?_ ?_
  · intro c4
    exact ev_r_return (pc := 29) (x := ()) trivial (by decide +kernel) (by decide +kernel) rfl
  · intro c4
    refine ev_r_iload (pc := 16) (k := 4) (v := Int32.ofInt x2) (by decide +kernel) (by exact ev_lk_st1_self) ?_
    refine ev_r_bipush (pc := 18) (k := 6) (by decide +kernel) (by decide +kernel) ?_
    refine ev_r_iadd (pc := 20) (by decide +kernel) ?_
    intro x5 hx5
    refine ev_r_aload_n (pc := 21) (k := 0) (v := .ref 281) trivial (by decide +kernel) (by exact (ev_l1 (by rfl) (by decide) (by decide))) ?_
    refine ev_r_getC (pc := 22) (y := 18) (ci := 8) (f := 8) (fin := 1) (k' := 283) (by decide +kernel) (by decide +kernel) (by exact ev_ob_281) rfl rfl ?_
    refine ev_r_alen (pc := 25) (kd := 1) (ty := .int) (Or.inl rfl) (by decide +kernel) (by exact ev_ab_283) ?_
    intro x6 hx6
    refine ev_r_icmp (pc := 26) (q := .le) (o := 4) (t := 30) (c := x5 ≤ x6) (by decide +kernel) (ev_k_le hx5 hx6) (by decide +kernel) ?_ ?_
    · intro c7
      refine ev_r_aload_n (pc := 30) (k := 0) (v := .ref 281) trivial (by decide +kernel) (by exact (ev_l1 (by rfl) (by decide) (by decide))) ?_
      refine ev_r_getC (pc := 31) (y := 18) (ci := 8) (f := 8) (fin := 1) (k' := 283) (by decide +kernel) (by decide +kernel) (by exact ev_ob_281) rfl rfl ?_
      refine ev_r_iload (pc := 34) (k := 4) (v := Int32.ofInt x2) (by decide +kernel) (by exact ev_lk_st1_self) ?_
      refine ev_r_iload_n (pc := 36) (k := 1) (v := Int32.ofInt a0) (by decide +kernel) (by exact (ev_l1 (by rfl) (by decide) (by decide))) ?_
      refine ev_r_iast (pc := 37) ha0 hx2 (by decide +kernel) (by exact ev_ab_283) ?_
      intro s8
      refine ev_r_aload_n (pc := 38) (k := 0) (v := .ref 281) trivial (by decide +kernel) (by exact (ev_l1 (by rfl) (by decide) (by decide))) ?_
      refine ev_r_getC (pc := 39) (y := 18) (ci := 8) (f := 8) (fin := 1) (k' := 283) (by decide +kernel) (by decide +kernel) (by exact ev_ob_281) rfl rfl ?_
      refine ev_r_iload (pc := 42) (k := 4) (v := Int32.ofInt x2) (by decide +kernel) (by exact ev_lk_st1_self) ?_
      refine ev_r_iconst (pc := 44) (k := 1) (by decide +kernel) ?_
      refine ev_r_iadd (pc := 45) (by decide +kernel) ?_
      intro x9 hx9
      refine ev_r_iload_n (pc := 46) (k := 2) (v := Int32.ofInt a1) (by decide +kernel) (by exact (ev_l1 (by rfl) (by decide) (by decide))) ?_
      refine ev_r_iast (pc := 47) ha1 hx9 (by decide +kernel) (by exact ev_ab_283) ?_
      intro s10
      refine ev_r_aload_n (pc := 48) (k := 0) (v := .ref 281) trivial (by decide +kernel) (by exact (ev_l1 (by rfl) (by decide) (by decide))) ?_
      refine ev_r_getC (pc := 49) (y := 18) (ci := 8) (f := 8) (fin := 1) (k' := 283) (by decide +kernel) (by decide +kernel) (by exact ev_ob_281) rfl rfl ?_
      refine ev_r_iload (pc := 52) (k := 4) (v := Int32.ofInt x2) (by decide +kernel) (by exact ev_lk_st1_self) ?_
      refine ev_r_iconst (pc := 54) (k := 2) (by decide +kernel) ?_
      refine ev_r_iadd (pc := 55) (by decide +kernel) ?_
      intro x11 hx11
      refine ev_r_aload_n (pc := 56) (k := 0) (v := .ref 281) trivial (by decide +kernel) (by exact (ev_l1 (by rfl) (by decide) (by decide))) ?_
      refine ev_r_getI (pc := 57) (y := 70) (ci := 8) (f := 3) (fin := 0) (by decide +kernel) (by decide +kernel) (by exact ev_ob_281) rfl ?_
      intro x12 hx12
      refine ev_r_iast (pc := 60) hx12 hx11 (by decide +kernel) (by exact ev_ab_283) ?_
      intro s13
      refine ev_r_aload_n (pc := 61) (k := 0) (v := .ref 281) trivial (by decide +kernel) (by exact (ev_l1 (by rfl) (by decide) (by decide))) ?_
      refine ev_r_getC (pc := 62) (y := 18) (ci := 8) (f := 8) (fin := 1) (k' := 283) (by decide +kernel) (by decide +kernel) (by exact ev_ob_281) rfl rfl ?_
      refine ev_r_iload (pc := 65) (k := 4) (v := Int32.ofInt x2) (by decide +kernel) (by exact ev_lk_st1_self) ?_
      refine ev_r_iconst (pc := 67) (k := 3) (by decide +kernel) ?_
      refine ev_r_iadd (pc := 68) (by decide +kernel) ?_
      intro x14 hx14
      refine ev_r_iload_n (pc := 69) (k := 3) (v := Int32.ofInt a2) (by decide +kernel) (by exact (ev_lk_st1 (by rfl) (by decide) rfl)) ?_
      refine ev_r_iast (pc := 70) ha2 hx14 (by decide +kernel) (by exact ev_ab_283) ?_
      intro s15
      refine ev_r_aload_n (pc := 71) (k := 0) (v := .ref 281) trivial (by decide +kernel) (by exact (ev_l1 (by rfl) (by decide) (by decide))) ?_
      refine ev_r_getC (pc := 72) (y := 18) (ci := 8) (f := 8) (fin := 1) (k' := 283) (by decide +kernel) (by decide +kernel) (by exact ev_ob_281) rfl rfl ?_
      refine ev_r_iload (pc := 75) (k := 4) (v := Int32.ofInt x2) (by decide +kernel) (by exact ev_lk_st1_self) ?_
      refine ev_r_iconst (pc := 77) (k := 4) (by decide +kernel) ?_
      refine ev_r_iadd (pc := 78) (by decide +kernel) ?_
      intro x16 hx16
      refine ev_r_aload_n (pc := 79) (k := 0) (v := .ref 281) trivial (by decide +kernel) (by exact (ev_l1 (by rfl) (by decide) (by decide))) ?_
      refine ev_r_getI (pc := 80) (y := 76) (ci := 8) (f := 5) (fin := 0) (by decide +kernel) (by decide +kernel) (by exact ev_ob_281) rfl ?_
      intro x17 hx17
      refine ev_r_iast (pc := 83) hx17 hx16 (by decide +kernel) (by exact ev_ab_283) ?_
      intro s18
      refine ev_r_aload_n (pc := 84) (k := 0) (v := .ref 281) trivial (by decide +kernel) (by exact (ev_l1 (by rfl) (by decide) (by decide))) ?_
      refine ev_r_getC (pc := 85) (y := 18) (ci := 8) (f := 8) (fin := 1) (k' := 283) (by decide +kernel) (by decide +kernel) (by exact ev_ob_281) rfl rfl ?_
      refine ev_r_iload (pc := 88) (k := 4) (v := Int32.ofInt x2) (by decide +kernel) (by exact ev_lk_st1_self) ?_
      refine ev_r_iconst (pc := 90) (k := 5) (by decide +kernel) ?_
      refine ev_r_iadd (pc := 91) (by decide +kernel) ?_
      intro x19 hx19
      refine ev_r_aload_n (pc := 92) (k := 0) (v := .ref 281) trivial (by decide +kernel) (by exact (ev_l1 (by rfl) (by decide) (by decide))) ?_
      refine ev_r_getI (pc := 93) (y := 79) (ci := 8) (f := 7) (fin := 0) (by decide +kernel) (by decide +kernel) (by exact ev_ob_281) rfl ?_
      intro x20 hx20
      refine ev_r_iast (pc := 96) hx20 hx19 (by decide +kernel) (by exact ev_ab_283) ?_
      intro s21
      refine ev_r_aload_n (pc := 97) (k := 0) (v := .ref 281) trivial (by decide +kernel) (by exact (ev_l1 (by rfl) (by decide) (by decide))) ?_
      refine ev_r_dup (pc := 98) rfl (by decide +kernel) ?_
      refine ev_r_getI (pc := 99) (y := 82) (ci := 8) (f := 9) (fin := 0) (by decide +kernel) (by decide +kernel) (by exact ev_ob_281) rfl ?_
      intro x22 hx22
      refine ev_r_iconst (pc := 102) (k := 1) (by decide +kernel) ?_
      refine ev_r_iadd (pc := 103) (by decide +kernel) ?_
      intro x23 hx23
      refine ev_r_putI (pc := 104) (y := 82) (ci := 8) (f := 9) hx23 (by decide +kernel) (by decide +kernel) (by exact ev_ob_281) rfl rfl ?_
      intro s24
      exact ev_r_return (pc := 107) (x := ()) trivial (by decide +kernel) (by decide +kernel) rfl
    · intro c7
      exact ev_r_return (pc := 29) (x := ()) trivial (by decide +kernel) (by decide +kernel) rfl
/-- MendBench$Search.goRound(I)Z -/
def jm_143 (Q : Nat) (a0 : Int) (S : ev_St) : Option ((Int) × ev_St) := ev_b (S.1 281 4) fun x1 => ev_bd (jm_126 Q x1 S) fun x3 s2 => if x3 ≠ 0 then (ev_b (s2.1 281 4) fun x5 => ev_ck (x5 + 2) fun x6 => ev_if ((0 : Int) ≤ x6 ∧ x6 < (ev_aln 282 : Int)) (ev_b (s2.1 282 (Int.toNat x6)) fun x7 => ev_b (s2.1 281 4) fun x8 => ev_if ((0 : Int) ≤ x8 ∧ x8 < (ev_aln 282 : Int)) (ev_b (s2.1 282 (Int.toNat x8)) fun x9 => ev_b (s2.2.2.1 281 0) fun r10 => ev_if (r10 ≠ 0) (ev_if ((0 : Int) ≤ a0 ∧ a0 < (ev_aln (((r10 - 1) + 3)) : Int)) (ev_b (s2.1 (((r10 - 1) + 3)) (Int.toNat a0)) fun x12 => ev_b (s2.2.2.1 281 0) fun r13 => ev_if (r13 ≠ 0) (ev_if ((0 : Int) ≤ a0 ∧ a0 < (ev_aln (((r13 - 1) + 2)) : Int)) (ev_b (s2.1 (((r13 - 1) + 2)) (Int.toNat a0)) fun x15 => if x15 ≤ x7 then (ev_jn (fun  (s21 : ev_St) => ev_b (s21.2.2.1 281 0) fun r22 => ev_if (r22 ≠ 0) (ev_if ((0 : Int) ≤ a0 ∧ a0 < (ev_aln (((r22 - 1) + 1)) : Int)) (ev_b (s21.1 (((r22 - 1) + 1)) (Int.toNat a0)) fun x24 => if x24 ≠ 13 then (ev_ck (4 * a0) fun x26 => ev_ck (x26 + 2) fun x27 => ev_b (s21.1 281 4) fun x28 => ev_bd (jm_130 Q 0 x27 x28 s21) fun _ s29 => ev_b (ev_pI s29 281 4 x9) fun s30 => ev_b (s30.2.2.1 281 0) fun r31 => ev_if (r31 ≠ 0) (ev_if ((0 : Int) ≤ a0 ∧ a0 < (ev_aln (((r31 - 1) + 7)) : Int)) (ev_b (s30.1 (((r31 - 1) + 7)) (Int.toNat a0)) fun x33 => ev_b (ev_pI s30 281 2 x33) fun s34 => some (1, s34)))) else (ev_b (s21.2.2.1 281 0) fun r35 => ev_if (r35 ≠ 0) (ev_if ((0 : Int) ≤ a0 ∧ a0 < (ev_aln (((r35 - 1) + 7)) : Int)) (ev_b (s21.1 (((r35 - 1) + 7)) (Int.toNat a0)) fun x37 => ev_bd (jm_130 Q 0 x37 x9 s21) fun _ s38 => ev_ck (4 * a0) fun x39 => ev_ck (x39 + 2) fun x40 => ev_b (ev_pI s38 281 2 x40) fun s41 => some (1, s41))))))) fun K104 => if x12 = (-1) then (K104  s2) else (if x7 < x12 then (K104  s2) else (ev_b (ev_pI s2 281 4 x9) fun s44 => ev_b (s44.2.2.1 281 0) fun r45 => ev_if (r45 ≠ 0) (ev_if ((0 : Int) ≤ a0 ∧ a0 < (ev_aln (((r45 - 1) + 7)) : Int)) (ev_b (s44.1 (((r45 - 1) + 7)) (Int.toNat a0)) fun x47 => ev_b (ev_pI s44 281 2 x47) fun s48 => some (1, s48)))))) else (ev_ck (4 * a0) fun x49 => ev_ck (x49 + 2) fun x50 => ev_b (ev_pI s2 281 2 x50) fun s51 => some (1, s51))))))))) else (some (0, s2))
theorem jt_143 (d : Nat) (hd : 2 ≤ d) (Q : Nat) (a0 : Int) (ha0 : ev_rng a0) (S : ev_St) (x : Int) (S' : ev_St) (hJ : jm_143 Q a0 S = some (x, S')) : ev_Ref d 143 [.ref 281, .int (Int32.ofInt a0)] S (ev_eI x) S' (ev_bl x) := by
  obtain ⟨d, rfl⟩ : ∃ e, d = e + 1 := ⟨d - 1, by omega⟩
  refine ev_ref_of (P := ev_bl) (lv := [(0, .ref 281), (1, .int (Int32.ofInt a0))]) (by decide +kernel) (by (try simp only [ev_sum, ev_nv_cat]); first | done | rfl) (by (try simp only [lv_args, ev_nv_cat]); first | done | rfl) ?_ x S' hJ
  unfold jm_143
  refine ev_r_aload_n (pc := 0) (k := 0) (v := .ref 281) trivial (by decide +kernel) (by rfl) ?_
  refine ev_r_aload_n (pc := 1) (k := 0) (v := .ref 281) trivial (by decide +kernel) (by rfl) ?_
  refine ev_r_getI (pc := 2) (y := 73) (ci := 8) (f := 4) (fin := 0) (by decide +kernel) (by decide +kernel) (by exact ev_ob_281) rfl ?_
  intro x1 hx1
  refine ev_r_virt (pc := 5) (y := 112) (mi := 126) (na := 1) (k := 281) (as := [.int (Int32.ofInt x1)]) (rest := []) (encc := ev_oI) (Q := ev_bl) (fun x S1 h => jt_126 d (by omega) Q x1 hx1 S x S1 h) (by exact ev_ob_281) (by decide +kernel) (by decide +kernel) (by decide +kernel) (by decide +kernel) rfl (by (try simp only [ev_sum, ev_nv_cat]); first | done | rfl) ?_
  intro x3 s2 hx3
  replace hx3 := ev_bl_rng hx3
  show ev_w _ _ _ _ _ [.int (Int32.ofInt x3)] _ _ _ _
  refine ev_r_if (pc := 8) (q := .ne) (o := 5) (t := 13) (c := x3 ≠ 0) (by decide +kernel) (ev_k_ne hx3 ev_rng0) (by decide +kernel) ?_ ?_
  · intro c4
    refine ev_r_aload_n (pc := 13) (k := 0) (v := .ref 281) trivial (by decide +kernel) (by rfl) ?_
    refine ev_r_getC (pc := 14) (y := 14) (ci := 8) (f := 6) (fin := 1) (k' := 282) (by decide +kernel) (by decide +kernel) (by exact ev_ob_281) rfl rfl ?_
    refine ev_r_aload_n (pc := 17) (k := 0) (v := .ref 281) trivial (by decide +kernel) (by rfl) ?_
    refine ev_r_getI (pc := 18) (y := 73) (ci := 8) (f := 4) (fin := 0) (by decide +kernel) (by decide +kernel) (by exact ev_ob_281) rfl ?_
    intro x5 hx5
    refine ev_r_iconst (pc := 21) (k := 2) (by decide +kernel) ?_
    refine ev_r_iadd (pc := 22) (by decide +kernel) ?_
    intro x6 hx6
    refine ev_r_iald (pc := 23) hx6 (by decide +kernel) (by exact ev_ab_282) ?_
    intro x7 hx7
    refine ev_r_istore_n (pc := 24) (k := 2) (by decide +kernel) (by decide +kernel) rfl ?_
    refine ev_r_aload_n (pc := 25) (k := 0) (v := .ref 281) trivial (by decide +kernel) (by exact (ev_l1 (by rfl) (by decide) (by decide))) ?_
    refine ev_r_getC (pc := 26) (y := 14) (ci := 8) (f := 6) (fin := 1) (k' := 282) (by decide +kernel) (by decide +kernel) (by exact ev_ob_281) rfl rfl ?_
    refine ev_r_aload_n (pc := 29) (k := 0) (v := .ref 281) trivial (by decide +kernel) (by exact (ev_l1 (by rfl) (by decide) (by decide))) ?_
    refine ev_r_getI (pc := 30) (y := 73) (ci := 8) (f := 4) (fin := 0) (by decide +kernel) (by decide +kernel) (by exact ev_ob_281) rfl ?_
    intro x8 hx8
    refine ev_r_iald (pc := 33) hx8 (by decide +kernel) (by exact ev_ab_282) ?_
    intro x9 hx9
    refine ev_r_istore_n (pc := 34) (k := 3) (by decide +kernel) (by decide +kernel) rfl ?_
    refine ev_r_aload_n (pc := 35) (k := 0) (v := .ref 281) trivial (by decide +kernel) (by exact (ev_l1 (ev_l1 (by rfl) (by decide) (by decide)) (by decide) (by decide))) ?_
    refine ev_r_getR (pc := 36) (y := 58) (ci := 8) (f := 0) (fin := 0) (t := 5) (by decide +kernel) (by decide +kernel) (by exact ev_ob_281) rfl rfl ?_
    intro r10 hr10
    have hr10 : r10 = 0 ∨ ev_isOb (r10 - 1) 5 = true := hr10
    refine ev_r_chk ?_
    intro c11
    refine ev_r_dr (r := r10) (fun v => [v]) c11 ?_
    refine ev_r_getC (pc := 39) (y := 187) (ci := 5) (f := 2) (fin := 2) (k' := ((r10 - 1) + 3)) (by decide +kernel) (by decide +kernel) (by exact (hr10.resolve_left c11)) rfl rfl ?_
    refine ev_r_iload_n (pc := 42) (k := 1) (v := Int32.ofInt a0) (by decide +kernel) (by exact (ev_l1 (ev_lk_st1 (by rfl) (by decide) rfl) (by decide) (by decide))) ?_
    refine ev_r_iald (pc := 43) ha0 (by decide +kernel) (by exact (ev_fo_5_2 (hr10.resolve_left c11))) ?_
    intro x12 hx12
    refine ev_r_istore (pc := 44) (k := 4) (by decide +kernel) (by decide +kernel) rfl ?_
    refine ev_r_iload_n (pc := 46) (k := 2) (v := Int32.ofInt x7) (by decide +kernel) (by exact (ev_l1 (ev_lk_st1 ev_lk_st1_self (by decide) rfl) (by decide) (by decide))) ?_
    refine ev_r_aload_n (pc := 47) (k := 0) (v := .ref 281) trivial (by decide +kernel) (by exact (ev_l1 (ev_l1 (ev_l1 (by rfl) (by decide) (by decide)) (by decide) (by decide)) (by decide) (by decide))) ?_
    refine ev_r_getR (pc := 48) (y := 58) (ci := 8) (f := 0) (fin := 0) (t := 5) (by decide +kernel) (by decide +kernel) (by exact ev_ob_281) rfl rfl ?_
    intro r13 hr13
    have hr13 : r13 = 0 ∨ ev_isOb (r13 - 1) 5 = true := hr13
    refine ev_r_chk ?_
    intro c14
    refine ev_r_dr (r := r13) (fun v => [v, .int (Int32.ofInt x7)]) c14 ?_
    refine ev_r_getC (pc := 51) (y := 184) (ci := 5) (f := 1) (fin := 2) (k' := ((r13 - 1) + 2)) (by decide +kernel) (by decide +kernel) (by exact (hr13.resolve_left c14)) rfl rfl ?_
    refine ev_r_iload_n (pc := 54) (k := 1) (v := Int32.ofInt a0) (by decide +kernel) (by exact (ev_l1 (ev_l1 (ev_lk_st1 (by rfl) (by decide) rfl) (by decide) (by decide)) (by decide) (by decide))) ?_
    refine ev_r_iald (pc := 55) ha0 (by decide +kernel) (by exact (ev_fo_5_1 (hr13.resolve_left c14))) ?_
    intro x15 hx15
    refine ev_r_icmp (pc := 56) (q := .ge) (o := 15) (t := 71) (c := x15 ≤ x7) (by decide +kernel) (ev_k_ge hx7 hx15) (by decide +kernel) ?_ ?_
    · intro c16
      refine ev_r_iload (pc := 71) (k := 4) (v := Int32.ofInt x12) (by decide +kernel) (by exact ev_lk_st1_self) ?_
      refine ev_r_iconst (pc := 73) (k := -1) (by decide +kernel) ?_
      refine ev_r_jn (Q := fun K => ∀ (s21 : ev_St) (w17 : List (Nat × Value)), ev_lk w17 0 = some (.ref 281) → ev_lk w17 1 = some (.int (Int32.ofInt a0)) → ev_lk w17 3 = some (.int (Int32.ofInt x9)) → ev_w none (ev_Mof 143) d 104 w17 [] s21 (K  s21) ev_eI ev_bl) ?_ ?_
      · intro  s21 w17 e18 e19 e20
        refine ev_r_aload_n (pc := 104) (k := 0) (v := .ref 281) trivial (by decide +kernel) (by exact e18) ?_
        refine ev_r_getR (pc := 105) (y := 58) (ci := 8) (f := 0) (fin := 0) (t := 5) (by decide +kernel) (by decide +kernel) (by exact ev_ob_281) rfl rfl ?_
        intro r22 hr22
        have hr22 : r22 = 0 ∨ ev_isOb (r22 - 1) 5 = true := hr22
        refine ev_r_chk ?_
        intro c23
        refine ev_r_dr (r := r22) (fun v => [v]) c23 ?_
        refine ev_r_getC (pc := 108) (y := 132) (ci := 5) (f := 0) (fin := 2) (k' := ((r22 - 1) + 1)) (by decide +kernel) (by decide +kernel) (by exact (hr22.resolve_left c23)) rfl rfl ?_
        refine ev_r_iload_n (pc := 111) (k := 1) (v := Int32.ofInt a0) (by decide +kernel) (by exact e19) ?_
        refine ev_r_iald (pc := 112) ha0 (by decide +kernel) (by exact (ev_fo_5_0 (hr22.resolve_left c23))) ?_
        intro x24 hx24
        refine ev_r_bipush (pc := 113) (k := 13) (by decide +kernel) (by decide +kernel) ?_
        refine ev_r_icmp (pc := 115) (q := .ne) (o := 30) (t := 145) (c := x24 ≠ 13) (by decide +kernel) (ev_k_ne hx24 (by decide)) (by decide +kernel) ?_ ?_
        · intro c25
          refine ev_r_aload_n (pc := 145) (k := 0) (v := .ref 281) trivial (by decide +kernel) (by exact e18) ?_
          refine ev_r_iconst (pc := 146) (k := 0) (by decide +kernel) ?_
          refine ev_r_iconst (pc := 147) (k := 4) (by decide +kernel) ?_
          refine ev_r_iload_n (pc := 148) (k := 1) (v := Int32.ofInt a0) (by decide +kernel) (by exact e19) ?_
          refine ev_r_imul (pc := 149) (by decide +kernel) ?_
          intro x26 hx26
          refine ev_r_iconst (pc := 150) (k := 2) (by decide +kernel) ?_
          refine ev_r_iadd (pc := 151) (by decide +kernel) ?_
          intro x27 hx27
          refine ev_r_aload_n (pc := 152) (k := 0) (v := .ref 281) trivial (by decide +kernel) (by exact e18) ?_
          refine ev_r_getI (pc := 153) (y := 73) (ci := 8) (f := 4) (fin := 0) (by decide +kernel) (by decide +kernel) (by exact ev_ob_281) rfl ?_
          intro x28 hx28
          refine ev_r_virt (pc := 156) (y := 172) (mi := 130) (na := 3) (k := 281) (as := [.int (Int32.ofInt 0), .int (Int32.ofInt x27), .int (Int32.ofInt x28)]) (rest := []) (encc := ev_oU) (Q := ev_PU) (fun x S1 h => jt_130 d (by omega) Q 0 x27 x28 (by decide) hx27 hx28 s21 x S1 h) (by exact ev_ob_281) (by decide +kernel) (by decide +kernel) (by decide +kernel) (by decide +kernel) rfl (by (try simp only [ev_sum, ev_nv_cat]); first | done | rfl) ?_
          intro _ s29 _
          show ev_w _ _ _ _ _ [] _ _ _ _
          refine ev_r_aload_n (pc := 159) (k := 0) (v := .ref 281) trivial (by decide +kernel) (by exact e18) ?_
          refine ev_r_iload_n (pc := 160) (k := 3) (v := Int32.ofInt x9) (by decide +kernel) (by exact e20) ?_
          refine ev_r_putI (pc := 161) (y := 73) (ci := 8) (f := 4) hx9 (by decide +kernel) (by decide +kernel) (by exact ev_ob_281) rfl rfl ?_
          intro s30
          refine ev_r_aload_n (pc := 164) (k := 0) (v := .ref 281) trivial (by decide +kernel) (by exact e18) ?_
          refine ev_r_aload_n (pc := 165) (k := 0) (v := .ref 281) trivial (by decide +kernel) (by exact e18) ?_
          refine ev_r_getR (pc := 166) (y := 58) (ci := 8) (f := 0) (fin := 0) (t := 5) (by decide +kernel) (by decide +kernel) (by exact ev_ob_281) rfl rfl ?_
          intro r31 hr31
          have hr31 : r31 = 0 ∨ ev_isOb (r31 - 1) 5 = true := hr31
          refine ev_r_chk ?_
          intro c32
          refine ev_r_dr (r := r31) (fun v => [v, .ref 281]) c32 ?_
          refine ev_r_getC (pc := 169) (y := 139) (ci := 5) (f := 6) (fin := 2) (k' := ((r31 - 1) + 7)) (by decide +kernel) (by decide +kernel) (by exact (hr31.resolve_left c32)) rfl rfl ?_
          refine ev_r_iload_n (pc := 172) (k := 1) (v := Int32.ofInt a0) (by decide +kernel) (by exact e19) ?_
          refine ev_r_iald (pc := 173) ha0 (by decide +kernel) (by exact (ev_fo_5_6 (hr31.resolve_left c32))) ?_
          intro x33 hx33
          refine ev_r_putI (pc := 174) (y := 96) (ci := 8) (f := 2) hx33 (by decide +kernel) (by decide +kernel) (by exact ev_ob_281) rfl rfl ?_
          intro s34
          refine ev_r_iconst (pc := 177) (k := 1) (by decide +kernel) ?_
          exact ev_r_ireturn (pc := 178) (x := 1) (v := Int32.ofInt 1) (ty := .boolean) (by decide : ev_bl 1) (by decide +kernel) (by decide +kernel) (ev_ret_bl (by decide : ev_bl 1)) rfl
        · intro c25
          refine ev_r_aload_n (pc := 118) (k := 0) (v := .ref 281) trivial (by decide +kernel) (by exact e18) ?_
          refine ev_r_iconst (pc := 119) (k := 0) (by decide +kernel) ?_
          refine ev_r_aload_n (pc := 120) (k := 0) (v := .ref 281) trivial (by decide +kernel) (by exact e18) ?_
          refine ev_r_getR (pc := 121) (y := 58) (ci := 8) (f := 0) (fin := 0) (t := 5) (by decide +kernel) (by decide +kernel) (by exact ev_ob_281) rfl rfl ?_
          intro r35 hr35
          have hr35 : r35 = 0 ∨ ev_isOb (r35 - 1) 5 = true := hr35
          refine ev_r_chk ?_
          intro c36
          refine ev_r_dr (r := r35) (fun v => [v, .int (Int32.ofInt 0), .ref 281]) c36 ?_
          refine ev_r_getC (pc := 124) (y := 139) (ci := 5) (f := 6) (fin := 2) (k' := ((r35 - 1) + 7)) (by decide +kernel) (by decide +kernel) (by exact (hr35.resolve_left c36)) rfl rfl ?_
          refine ev_r_iload_n (pc := 127) (k := 1) (v := Int32.ofInt a0) (by decide +kernel) (by exact e19) ?_
          refine ev_r_iald (pc := 128) ha0 (by decide +kernel) (by exact (ev_fo_5_6 (hr35.resolve_left c36))) ?_
          intro x37 hx37
          refine ev_r_iload_n (pc := 129) (k := 3) (v := Int32.ofInt x9) (by decide +kernel) (by exact e20) ?_
          refine ev_r_virt (pc := 130) (y := 172) (mi := 130) (na := 3) (k := 281) (as := [.int (Int32.ofInt 0), .int (Int32.ofInt x37), .int (Int32.ofInt x9)]) (rest := []) (encc := ev_oU) (Q := ev_PU) (fun x S1 h => jt_130 d (by omega) Q 0 x37 x9 (by decide) hx37 hx9 s21 x S1 h) (by exact ev_ob_281) (by decide +kernel) (by decide +kernel) (by decide +kernel) (by decide +kernel) rfl (by (try simp only [ev_sum, ev_nv_cat]); first | done | rfl) ?_
          intro _ s38 _
          show ev_w _ _ _ _ _ [] _ _ _ _
          refine ev_r_aload_n (pc := 133) (k := 0) (v := .ref 281) trivial (by decide +kernel) (by exact e18) ?_
          refine ev_r_iconst (pc := 134) (k := 4) (by decide +kernel) ?_
          refine ev_r_iload_n (pc := 135) (k := 1) (v := Int32.ofInt a0) (by decide +kernel) (by exact e19) ?_
          refine ev_r_imul (pc := 136) (by decide +kernel) ?_
          intro x39 hx39
          refine ev_r_iconst (pc := 137) (k := 2) (by decide +kernel) ?_
          refine ev_r_iadd (pc := 138) (by decide +kernel) ?_
          intro x40 hx40
          refine ev_r_putI (pc := 139) (y := 96) (ci := 8) (f := 2) hx40 (by decide +kernel) (by decide +kernel) (by exact ev_ob_281) rfl rfl ?_
          intro s41
          refine ev_r_goto (pc := 142) (o := 35) (t := 177) (by decide +kernel) (by decide +kernel) ?_
          refine ev_r_iconst (pc := 177) (k := 1) (by decide +kernel) ?_
          exact ev_r_ireturn (pc := 178) (x := 1) (v := Int32.ofInt 1) (ty := .boolean) (by decide : ev_bl 1) (by decide +kernel) (by decide +kernel) (ev_ret_bl (by decide : ev_bl 1)) rfl
      · intro K104 hK104
        refine ev_r_icmp (pc := 74) (q := .eq) (o := 30) (t := 104) (c := x12 = (-1)) (by decide +kernel) (ev_k_eq hx12 (by decide)) (by decide +kernel) ?_ ?_
        · intro c42
          exact hK104  s2 _ (by exact (ev_l1 (ev_l1 (ev_l1 (by rfl) (by decide) (by decide)) (by decide) (by decide)) (by decide) (by decide))) (by exact (ev_l1 (ev_l1 (ev_lk_st1 (by rfl) (by decide) rfl) (by decide) (by decide)) (by decide) (by decide))) (by exact (ev_lk_st1 ev_lk_st1_self (by decide) rfl))
        · intro c42
          refine ev_r_iload_n (pc := 77) (k := 2) (v := Int32.ofInt x7) (by decide +kernel) (by exact (ev_l1 (ev_lk_st1 ev_lk_st1_self (by decide) rfl) (by decide) (by decide))) ?_
          refine ev_r_iload (pc := 78) (k := 4) (v := Int32.ofInt x12) (by decide +kernel) (by exact ev_lk_st1_self) ?_
          refine ev_r_icmp (pc := 80) (q := .lt) (o := 24) (t := 104) (c := x7 < x12) (by decide +kernel) (ev_k_lt hx7 hx12) (by decide +kernel) ?_ ?_
          · intro c43
            exact hK104  s2 _ (by exact (ev_l1 (ev_l1 (ev_l1 (by rfl) (by decide) (by decide)) (by decide) (by decide)) (by decide) (by decide))) (by exact (ev_l1 (ev_l1 (ev_lk_st1 (by rfl) (by decide) rfl) (by decide) (by decide)) (by decide) (by decide))) (by exact (ev_lk_st1 ev_lk_st1_self (by decide) rfl))
          · intro c43
            refine ev_r_aload_n (pc := 83) (k := 0) (v := .ref 281) trivial (by decide +kernel) (by exact (ev_l1 (ev_l1 (ev_l1 (by rfl) (by decide) (by decide)) (by decide) (by decide)) (by decide) (by decide))) ?_
            refine ev_r_iload_n (pc := 84) (k := 3) (v := Int32.ofInt x9) (by decide +kernel) (by exact (ev_lk_st1 ev_lk_st1_self (by decide) rfl)) ?_
            refine ev_r_putI (pc := 85) (y := 73) (ci := 8) (f := 4) hx9 (by decide +kernel) (by decide +kernel) (by exact ev_ob_281) rfl rfl ?_
            intro s44
            refine ev_r_aload_n (pc := 88) (k := 0) (v := .ref 281) trivial (by decide +kernel) (by exact (ev_l1 (ev_l1 (ev_l1 (by rfl) (by decide) (by decide)) (by decide) (by decide)) (by decide) (by decide))) ?_
            refine ev_r_aload_n (pc := 89) (k := 0) (v := .ref 281) trivial (by decide +kernel) (by exact (ev_l1 (ev_l1 (ev_l1 (by rfl) (by decide) (by decide)) (by decide) (by decide)) (by decide) (by decide))) ?_
            refine ev_r_getR (pc := 90) (y := 58) (ci := 8) (f := 0) (fin := 0) (t := 5) (by decide +kernel) (by decide +kernel) (by exact ev_ob_281) rfl rfl ?_
            intro r45 hr45
            have hr45 : r45 = 0 ∨ ev_isOb (r45 - 1) 5 = true := hr45
            refine ev_r_chk ?_
            intro c46
            refine ev_r_dr (r := r45) (fun v => [v, .ref 281]) c46 ?_
            refine ev_r_getC (pc := 93) (y := 139) (ci := 5) (f := 6) (fin := 2) (k' := ((r45 - 1) + 7)) (by decide +kernel) (by decide +kernel) (by exact (hr45.resolve_left c46)) rfl rfl ?_
            refine ev_r_iload_n (pc := 96) (k := 1) (v := Int32.ofInt a0) (by decide +kernel) (by exact (ev_l1 (ev_l1 (ev_lk_st1 (by rfl) (by decide) rfl) (by decide) (by decide)) (by decide) (by decide))) ?_
            refine ev_r_iald (pc := 97) ha0 (by decide +kernel) (by exact (ev_fo_5_6 (hr45.resolve_left c46))) ?_
            intro x47 hx47
            refine ev_r_putI (pc := 98) (y := 96) (ci := 8) (f := 2) hx47 (by decide +kernel) (by decide +kernel) (by exact ev_ob_281) rfl rfl ?_
            intro s48
            refine ev_r_goto (pc := 101) (o := 76) (t := 177) (by decide +kernel) (by decide +kernel) ?_
            refine ev_r_iconst (pc := 177) (k := 1) (by decide +kernel) ?_
            exact ev_r_ireturn (pc := 178) (x := 1) (v := Int32.ofInt 1) (ty := .boolean) (by decide : ev_bl 1) (by decide +kernel) (by decide +kernel) (ev_ret_bl (by decide : ev_bl 1)) rfl
    · intro c16
      refine ev_r_aload_n (pc := 59) (k := 0) (v := .ref 281) trivial (by decide +kernel) (by exact (ev_l1 (ev_l1 (ev_l1 (by rfl) (by decide) (by decide)) (by decide) (by decide)) (by decide) (by decide))) ?_
      refine ev_r_iconst (pc := 60) (k := 4) (by decide +kernel) ?_
      refine ev_r_iload_n (pc := 61) (k := 1) (v := Int32.ofInt a0) (by decide +kernel) (by exact (ev_l1 (ev_l1 (ev_lk_st1 (by rfl) (by decide) rfl) (by decide) (by decide)) (by decide) (by decide))) ?_
      refine ev_r_imul (pc := 62) (by decide +kernel) ?_
      intro x49 hx49
      refine ev_r_iconst (pc := 63) (k := 2) (by decide +kernel) ?_
      refine ev_r_iadd (pc := 64) (by decide +kernel) ?_
      intro x50 hx50
      refine ev_r_putI (pc := 65) (y := 96) (ci := 8) (f := 2) hx50 (by decide +kernel) (by decide +kernel) (by exact ev_ob_281) rfl rfl ?_
      intro s51
      refine ev_r_goto (pc := 68) (o := 109) (t := 177) (by decide +kernel) (by decide +kernel) ?_
      refine ev_r_iconst (pc := 177) (k := 1) (by decide +kernel) ?_
      exact ev_r_ireturn (pc := 178) (x := 1) (v := Int32.ofInt 1) (ty := .boolean) (by decide : ev_bl 1) (by decide +kernel) (by decide +kernel) (ev_ret_bl (by decide : ev_bl 1)) rfl
  · intro c4
    refine ev_r_iconst (pc := 11) (k := 0) (by decide +kernel) ?_
    exact ev_r_ireturn (pc := 12) (x := 0) (v := Int32.ofInt 0) (ty := .boolean) (by decide : ev_bl 0) (by decide +kernel) (by decide +kernel) (ev_ret_bl (by decide : ev_bl 0)) rfl
/-- MendBench$Search.looksAround()I -/
def jm_128 (Q : Nat)  (S : ev_St) : Option ((Int) × ev_St) := ev_b (S.1 281 4) fun x1 => ev_bd (jm_126 Q x1 S) fun x3 s2 => if x3 = 0 then (some (0, s2)) else (ev_b (s2.1 281 4) fun x5 => ev_ck (x5 + 1) fun x6 => ev_if ((0 : Int) ≤ x6 ∧ x6 < (ev_aln 282 : Int)) (ev_b (s2.1 282 (Int.toNat x6)) fun x7 => ev_if (256 ≠ 0) (ev_b (ev_idiv x7 256) fun x8 => some (x8, s2))))
theorem jt_128 (d : Nat) (hd : 2 ≤ d) (Q : Nat)   (S : ev_St) (x : Int) (S' : ev_St) (hJ : jm_128 Q  S = some (x, S')) : ev_Ref d 128 [.ref 281] S (ev_eI x) S' (ev_rng x) := by
  obtain ⟨d, rfl⟩ : ∃ e, d = e + 1 := ⟨d - 1, by omega⟩
  refine ev_ref_of (P := ev_rng) (lv := [(0, .ref 281)]) (by decide +kernel) (by (try simp only [ev_sum, ev_nv_cat]); first | done | rfl) (by (try simp only [lv_args, ev_nv_cat]); first | done | rfl) ?_ x S' hJ
  unfold jm_128
  refine ev_r_aload_n (pc := 0) (k := 0) (v := .ref 281) trivial (by decide +kernel) (by rfl) ?_
  refine ev_r_aload_n (pc := 1) (k := 0) (v := .ref 281) trivial (by decide +kernel) (by rfl) ?_
  refine ev_r_getI (pc := 2) (y := 73) (ci := 8) (f := 4) (fin := 0) (by decide +kernel) (by decide +kernel) (by exact ev_ob_281) rfl ?_
  intro x1 hx1
  refine ev_r_virt (pc := 5) (y := 112) (mi := 126) (na := 1) (k := 281) (as := [.int (Int32.ofInt x1)]) (rest := []) (encc := ev_oI) (Q := ev_bl) (fun x S1 h => jt_126 d (by omega) Q x1 hx1 S x S1 h) (by exact ev_ob_281) (by decide +kernel) (by decide +kernel) (by decide +kernel) (by decide +kernel) rfl (by (try simp only [ev_sum, ev_nv_cat]); first | done | rfl) ?_
  intro x3 s2 hx3
  replace hx3 := ev_bl_rng hx3
  show ev_w _ _ _ _ _ [.int (Int32.ofInt x3)] _ _ _ _
  refine ev_r_if (pc := 8) (q := .eq) (o := 21) (t := 29) (c := x3 = 0) (by decide +kernel) (ev_k_eq hx3 ev_rng0) (by decide +kernel) ?_ ?_
  · intro c4
    refine ev_r_iconst (pc := 29) (k := 0) (by decide +kernel) ?_
    exact ev_r_ireturn (pc := 30) (x := 0) (v := Int32.ofInt 0) (ty := .int) (by decide) (by decide +kernel) (by decide +kernel) rfl rfl
  · intro c4
    refine ev_r_aload_n (pc := 11) (k := 0) (v := .ref 281) trivial (by decide +kernel) (by rfl) ?_
    refine ev_r_getC (pc := 12) (y := 14) (ci := 8) (f := 6) (fin := 1) (k' := 282) (by decide +kernel) (by decide +kernel) (by exact ev_ob_281) rfl rfl ?_
    refine ev_r_aload_n (pc := 15) (k := 0) (v := .ref 281) trivial (by decide +kernel) (by rfl) ?_
    refine ev_r_getI (pc := 16) (y := 73) (ci := 8) (f := 4) (fin := 0) (by decide +kernel) (by decide +kernel) (by exact ev_ob_281) rfl ?_
    intro x5 hx5
    refine ev_r_iconst (pc := 19) (k := 1) (by decide +kernel) ?_
    refine ev_r_iadd (pc := 20) (by decide +kernel) ?_
    intro x6 hx6
    refine ev_r_iald (pc := 21) hx6 (by decide +kernel) (by exact ev_ab_282) ?_
    intro x7 hx7
    refine ev_r_sipush (pc := 22) (k := 256) (by decide +kernel) (by decide +kernel) ?_
    refine ev_r_idiv (pc := 25) (by decide) (by decide +kernel) ?_
    intro x8 hx8
    refine ev_r_goto (pc := 26) (o := 4) (t := 30) (by decide +kernel) (by decide +kernel) ?_
    exact ev_r_ireturn (pc := 30) (x := x8) (v := Int32.ofInt x8) (ty := .int) hx8 (by decide +kernel) (by decide +kernel) rfl rfl
/-- MendBench$Search.look(I)Z -/
def jm_140 (Q : Nat) (a0 : Int) (S : ev_St) : Option ((Int) × ev_St) := ev_bd (jm_128 Q  S) fun x2 s1 => if x2 < 40 then (ev_b (s1.1 281 4) fun x4 => ev_b (s1.1 281 3) fun x5 => ev_b (s1.1 281 9) fun x6 => ev_bd (jm_124 Q x4 3 x5 x6 s1) fun x8 s7 => ev_b (ev_pI s7 281 4 x8) fun s9 => ev_ck (4 * a0) fun x10 => ev_b (s9.1 281 4) fun x11 => ev_bd (jm_130 Q 1 x10 x11 s9) fun _ s12 => ev_b (s12.2.2.1 281 0) fun r13 => ev_if (r13 ≠ 0) (ev_if ((0 : Int) ≤ a0 ∧ a0 < (ev_aln (((r13 - 1) + 6)) : Int)) (ev_b (s12.1 (((r13 - 1) + 6)) (Int.toNat a0)) fun x15 => ev_b (ev_pI s12 281 2 x15) fun s16 => some (1, s16)))) else (some (0, s1))
theorem jt_140 (d : Nat) (hd : 3 ≤ d) (Q : Nat) (a0 : Int) (ha0 : ev_rng a0) (S : ev_St) (x : Int) (S' : ev_St) (hJ : jm_140 Q a0 S = some (x, S')) : ev_Ref d 140 [.ref 281, .int (Int32.ofInt a0)] S (ev_eI x) S' (ev_bl x) := by
  obtain ⟨d, rfl⟩ : ∃ e, d = e + 1 := ⟨d - 1, by omega⟩
  refine ev_ref_of (P := ev_bl) (lv := [(0, .ref 281), (1, .int (Int32.ofInt a0))]) (by decide +kernel) (by (try simp only [ev_sum, ev_nv_cat]); first | done | rfl) (by (try simp only [lv_args, ev_nv_cat]); first | done | rfl) ?_ x S' hJ
  unfold jm_140
  refine ev_r_aload_n (pc := 0) (k := 0) (v := .ref 281) trivial (by decide +kernel) (by rfl) ?_
  refine ev_r_virt (pc := 1) (y := 202) (mi := 128) (na := 0) (k := 281) (as := []) (rest := []) (encc := ev_oI) (Q := ev_rng) (fun x S1 h => jt_128 d (by omega) Q   S x S1 h) (by exact ev_ob_281) (by decide +kernel) (by decide +kernel) (by decide +kernel) (by decide +kernel) rfl (by (try simp only [ev_sum, ev_nv_cat]); first | done | rfl) ?_
  intro x2 s1 hx2
  show ev_w _ _ _ _ _ [.int (Int32.ofInt x2)] _ _ _ _
  refine ev_r_bipush (pc := 4) (k := 40) (by decide +kernel) (by decide +kernel) ?_
  refine ev_r_icmp (pc := 6) (q := .lt) (o := 5) (t := 11) (c := x2 < 40) (by decide +kernel) (ev_k_lt hx2 (by decide)) (by decide +kernel) ?_ ?_
  · intro c3
    refine ev_r_aload_n (pc := 11) (k := 0) (v := .ref 281) trivial (by decide +kernel) (by rfl) ?_
    refine ev_r_aload_n (pc := 12) (k := 0) (v := .ref 281) trivial (by decide +kernel) (by rfl) ?_
    refine ev_r_aload_n (pc := 13) (k := 0) (v := .ref 281) trivial (by decide +kernel) (by rfl) ?_
    refine ev_r_getI (pc := 14) (y := 73) (ci := 8) (f := 4) (fin := 0) (by decide +kernel) (by decide +kernel) (by exact ev_ob_281) rfl ?_
    intro x4 hx4
    refine ev_r_iconst (pc := 17) (k := 3) (by decide +kernel) ?_
    refine ev_r_aload_n (pc := 18) (k := 0) (v := .ref 281) trivial (by decide +kernel) (by rfl) ?_
    refine ev_r_getI (pc := 19) (y := 70) (ci := 8) (f := 3) (fin := 0) (by decide +kernel) (by decide +kernel) (by exact ev_ob_281) rfl ?_
    intro x5 hx5
    refine ev_r_aload_n (pc := 22) (k := 0) (v := .ref 281) trivial (by decide +kernel) (by rfl) ?_
    refine ev_r_getI (pc := 23) (y := 82) (ci := 8) (f := 9) (fin := 0) (by decide +kernel) (by decide +kernel) (by exact ev_ob_281) rfl ?_
    intro x6 hx6
    refine ev_r_virt (pc := 26) (y := 142) (mi := 124) (na := 4) (k := 281) (as := [.int (Int32.ofInt x4), .int (Int32.ofInt 3), .int (Int32.ofInt x5), .int (Int32.ofInt x6)]) (rest := [.ref 281]) (encc := ev_oI) (Q := ev_rng) (fun x S1 h => jt_124 d (by omega) Q x4 3 x5 x6 hx4 (by decide) hx5 hx6 s1 x S1 h) (by exact ev_ob_281) (by decide +kernel) (by decide +kernel) (by decide +kernel) (by decide +kernel) rfl (by (try simp only [ev_sum, ev_nv_cat]); first | done | rfl) ?_
    intro x8 s7 hx8
    show ev_w _ _ _ _ _ [.int (Int32.ofInt x8), .ref 281] _ _ _ _
    refine ev_r_putI (pc := 29) (y := 73) (ci := 8) (f := 4) hx8 (by decide +kernel) (by decide +kernel) (by exact ev_ob_281) rfl rfl ?_
    intro s9
    refine ev_r_aload_n (pc := 32) (k := 0) (v := .ref 281) trivial (by decide +kernel) (by rfl) ?_
    refine ev_r_iconst (pc := 33) (k := 1) (by decide +kernel) ?_
    refine ev_r_iconst (pc := 34) (k := 4) (by decide +kernel) ?_
    refine ev_r_iload_n (pc := 35) (k := 1) (v := Int32.ofInt a0) (by decide +kernel) (by rfl) ?_
    refine ev_r_imul (pc := 36) (by decide +kernel) ?_
    intro x10 hx10
    refine ev_r_aload_n (pc := 37) (k := 0) (v := .ref 281) trivial (by decide +kernel) (by rfl) ?_
    refine ev_r_getI (pc := 38) (y := 73) (ci := 8) (f := 4) (fin := 0) (by decide +kernel) (by decide +kernel) (by exact ev_ob_281) rfl ?_
    intro x11 hx11
    refine ev_r_virt (pc := 41) (y := 172) (mi := 130) (na := 3) (k := 281) (as := [.int (Int32.ofInt 1), .int (Int32.ofInt x10), .int (Int32.ofInt x11)]) (rest := []) (encc := ev_oU) (Q := ev_PU) (fun x S1 h => jt_130 d (by omega) Q 1 x10 x11 (by decide) hx10 hx11 s9 x S1 h) (by exact ev_ob_281) (by decide +kernel) (by decide +kernel) (by decide +kernel) (by decide +kernel) rfl (by (try simp only [ev_sum, ev_nv_cat]); first | done | rfl) ?_
    intro _ s12 _
    show ev_w _ _ _ _ _ [] _ _ _ _
    refine ev_r_aload_n (pc := 44) (k := 0) (v := .ref 281) trivial (by decide +kernel) (by rfl) ?_
    refine ev_r_aload_n (pc := 45) (k := 0) (v := .ref 281) trivial (by decide +kernel) (by rfl) ?_
    refine ev_r_getR (pc := 46) (y := 58) (ci := 8) (f := 0) (fin := 0) (t := 5) (by decide +kernel) (by decide +kernel) (by exact ev_ob_281) rfl rfl ?_
    intro r13 hr13
    have hr13 : r13 = 0 ∨ ev_isOb (r13 - 1) 5 = true := hr13
    refine ev_r_chk ?_
    intro c14
    refine ev_r_dr (r := r13) (fun v => [v, .ref 281]) c14 ?_
    refine ev_r_getC (pc := 49) (y := 93) (ci := 5) (f := 5) (fin := 2) (k' := ((r13 - 1) + 6)) (by decide +kernel) (by decide +kernel) (by exact (hr13.resolve_left c14)) rfl rfl ?_
    refine ev_r_iload_n (pc := 52) (k := 1) (v := Int32.ofInt a0) (by decide +kernel) (by rfl) ?_
    refine ev_r_iald (pc := 53) ha0 (by decide +kernel) (by exact (ev_fo_5_5 (hr13.resolve_left c14))) ?_
    intro x15 hx15
    refine ev_r_putI (pc := 54) (y := 96) (ci := 8) (f := 2) hx15 (by decide +kernel) (by decide +kernel) (by exact ev_ob_281) rfl rfl ?_
    intro s16
    refine ev_r_iconst (pc := 57) (k := 1) (by decide +kernel) ?_
    exact ev_r_ireturn (pc := 58) (x := 1) (v := Int32.ofInt 1) (ty := .boolean) (by decide : ev_bl 1) (by decide +kernel) (by decide +kernel) (ev_ret_bl (by decide : ev_bl 1)) rfl
  · intro c3
    refine ev_r_iconst (pc := 9) (k := 0) (by decide +kernel) ?_
    exact ev_r_ireturn (pc := 10) (x := 0) (v := Int32.ofInt 0) (ty := .boolean) (by decide : ev_bl 0) (by decide +kernel) (by decide +kernel) (ev_ret_bl (by decide : ev_bl 0)) rfl
/-- MendBench$Search.enter(I)Z -/
def jm_136 (Q : Nat) (a0 : Int) (S : ev_St) : Option ((Int) × ev_St) := ev_b (S.2.2.1 281 0) fun r1 => ev_if (r1 ≠ 0) (ev_if ((0 : Int) ≤ a0 ∧ a0 < (ev_aln (((r1 - 1) + 1)) : Int)) (ev_b (S.1 (((r1 - 1) + 1)) (Int.toNat a0)) fun x3 => if x3 ≠ 17 then (if x3 ≠ 18 then (ev_bd (jm_123 Q  S) fun x7 s6 => if x7 ≠ 0 then (ev_bd (jm_61 Q x3 s6) fun x10 s9 => if x10 = 0 then (if x3 = 0 then (ev_b (s9.2.2.1 281 0) fun r13 => ev_if (r13 ≠ 0) (ev_if ((0 : Int) ≤ a0 ∧ a0 < (ev_aln (((r13 - 1) + 7)) : Int)) (ev_b (s9.1 (((r13 - 1) + 7)) (Int.toNat a0)) fun x15 => ev_b (ev_pI s9 281 2 x15) fun s16 => ev_b (s16.1 281 3) fun x17 => ev_ck (x17 + 1) fun x18 => ev_b (ev_pI s16 281 3 x18) fun s19 => ev_b (s19.2.2.1 281 0) fun r20 => ev_if (r20 ≠ 0) (ev_if ((0 : Int) ≤ a0 ∧ a0 < (ev_aln (((r20 - 1) + 8)) : Int)) (ev_b (s19.2.1 (((r20 - 1) + 8)) (Int.toNat a0)) fun y22 => ev_b (s19.2.2.1 281 0) fun r23 => ev_if (r23 ≠ 0) (ev_if ((0 : Int) ≤ a0 ∧ a0 < (ev_aln (((r23 - 1) + 9)) : Int)) (ev_b (s19.2.1 (((r23 - 1) + 9)) (Int.toNat a0)) fun y25 => ev_b (s19.2.2.1 281 1) fun r26 => ev_b (s19.1 281 3) fun x27 => ev_ck (x27 - 1) fun x28 => ev_if (r26 ≠ 0) (ev_bd (jm_151 Q ((r26 - 1)) x28 s19) fun x31 s30 => ev_bd (jm_214 Q y22 y25 x31 s30) fun x33 s32 => ev_if (ev_bl x33) (some (x33, s32)))))))))) else (if x3 = 1 ∨ x3 = 2 ∨ x3 = 3 ∨ x3 = 4 ∨ x3 = 5 ∨ x3 = 6 then (ev_bd (jm_140 Q a0 s9) fun x37 s36 => ev_if (ev_bl x37) (some (x37, s36))) else (if x3 = 7 then (ev_bd (jm_137 Q a0 s9) fun x41 s40 => ev_if (ev_bl x41) (some (x41, s40))) else (if x3 = 8 then (ev_bd (jm_138 Q a0 s9) fun x45 s44 => ev_if (ev_bl x45) (some (x45, s44))) else (if x3 = 9 then (ev_bd (jm_139 Q a0 s9) fun x49 s48 => ev_if (ev_bl x49) (some (x49, s48))) else (if x3 = 10 then (some (0, s9)) else (if x3 = 11 ∨ x3 = 12 then (ev_jn (fun (x53 : Int) (s57 : ev_St) => ev_b (s57.1 281 4) fun x58 => ev_bd (jm_130 Q x53 0 x58 s57) fun _ s59 => ev_b (s59.2.2.1 281 0) fun r60 => ev_if (r60 ≠ 0) (ev_if ((0 : Int) ≤ a0 ∧ a0 < (ev_aln (((r60 - 1) + 7)) : Int)) (ev_b (s59.1 (((r60 - 1) + 7)) (Int.toNat a0)) fun x62 => ev_b (ev_pI s59 281 2 x62) fun s63 => some (1, s63)))) fun K280 => if x3 ≠ 11 then (K280 3 s9) else (K280 2 s9)) else (if x3 = 13 ∨ x3 = 14 then (ev_b (s9.1 281 4) fun x66 => ev_b (s9.1 281 3) fun x67 => ev_bd (jm_124 Q x66 0 0 x67 s9) fun x69 s68 => ev_b (ev_pI s68 281 4 x69) fun s70 => ev_bd (jm_143 Q a0 s70) fun x72 s71 => ev_if (ev_bl x72) (some (x72, s71))) else (if x3 = 15 then (ev_b (s9.2.2.1 281 0) fun r75 => ev_if (r75 ≠ 0) (ev_if ((0 : Int) ≤ a0 ∧ a0 < (ev_aln (((r75 - 1) + 5)) : Int)) (ev_b (s9.1 (((r75 - 1) + 5)) (Int.toNat a0)) fun x77 => ev_jn (fun  (s81 : ev_St) => ev_b (s81.2.2.1 281 0) fun r82 => ev_if (r82 ≠ 0) (ev_if ((0 : Int) ≤ a0 ∧ a0 < (ev_aln (((r82 - 1) + 6)) : Int)) (ev_b (s81.1 (((r82 - 1) + 6)) (Int.toNat a0)) fun x84 => ev_b (ev_pI s81 281 2 x84) fun s85 => some (1, s85)))) fun K361 => if x77 < 0 then (K361  s9) else (ev_b (s9.2.2.1 281 0) fun r87 => ev_if (r87 ≠ 0) (ev_if ((0 : Int) ≤ a0 ∧ a0 < (ev_aln (((r87 - 1) + 5)) : Int)) (ev_b (s9.1 (((r87 - 1) + 5)) (Int.toNat a0)) fun x89 => ev_ck (4 * x89) fun x90 => ev_ck (x90 + 0) fun x91 => ev_b (s9.1 281 4) fun x92 => ev_bd (jm_130 Q 0 x91 x92 s9) fun _ s93 => K361  s93)))))) else (ev_bd (jm_140 Q a0 s9) fun x95 s94 => ev_if (ev_bl x95) (some (x95, s94)))))))))))) else (ev_b (s9.2.2.1 281 0) fun r97 => ev_if (r97 ≠ 0) (ev_if ((0 : Int) ≤ a0 ∧ a0 < (ev_aln (((r97 - 1) + 7)) : Int)) (ev_b (s9.1 (((r97 - 1) + 7)) (Int.toNat a0)) fun x99 => ev_b (ev_pI s9 281 2 x99) fun s100 => ev_b (s100.2.2.1 281 1) fun r101 => ev_b (s100.1 281 3) fun x102 => ev_if (r101 ≠ 0) (ev_bd (jm_155 Q ((r101 - 1)) x3 x102 s100) fun x105 s104 => ev_if (ev_bl x105) (some (x105, s104))))))) else (some (0, s6))) else (ev_b (S.1 281 4) fun x107 => ev_b (S.1 281 3) fun x108 => ev_bd (jm_124 Q x107 1 x108 0 S) fun x110 s109 => ev_b (ev_pI s109 281 4 x110) fun s111 => ev_b (s111.2.2.1 281 0) fun r112 => ev_if (r112 ≠ 0) (ev_if ((0 : Int) ≤ a0 ∧ a0 < (ev_aln (((r112 - 1) + 6)) : Int)) (ev_b (s111.1 (((r112 - 1) + 6)) (Int.toNat a0)) fun x114 => ev_b (ev_pI s111 281 2 x114) fun s115 => some (1, s115))))) else (ev_b (S.2.2.1 281 0) fun r116 => ev_if (r116 ≠ 0) (ev_if ((0 : Int) ≤ a0 ∧ a0 < (ev_aln (((r116 - 1) + 6)) : Int)) (ev_b (S.1 (((r116 - 1) + 6)) (Int.toNat a0)) fun x118 => ev_b (ev_pI S 281 2 x118) fun s119 => some (1, s119))))))
theorem jt_136 (d : Nat) (hd : 4 ≤ d) (Q : Nat) (a0 : Int) (ha0 : ev_rng a0) (S : ev_St) (x : Int) (S' : ev_St) (hJ : jm_136 Q a0 S = some (x, S')) : ev_Ref d 136 [.ref 281, .int (Int32.ofInt a0)] S (ev_eI x) S' (ev_bl x) := by
  obtain ⟨d, rfl⟩ : ∃ e, d = e + 1 := ⟨d - 1, by omega⟩
  refine ev_ref_of (P := ev_bl) (lv := [(0, .ref 281), (1, .int (Int32.ofInt a0))]) (by decide +kernel) (by (try simp only [ev_sum, ev_nv_cat]); first | done | rfl) (by (try simp only [lv_args, ev_nv_cat]); first | done | rfl) ?_ x S' hJ
  unfold jm_136
  refine ev_r_aload_n (pc := 0) (k := 0) (v := .ref 281) trivial (by decide +kernel) (by rfl) ?_
  refine ev_r_getR (pc := 1) (y := 58) (ci := 8) (f := 0) (fin := 0) (t := 5) (by decide +kernel) (by decide +kernel) (by exact ev_ob_281) rfl rfl ?_
  intro r1 hr1
  have hr1 : r1 = 0 ∨ ev_isOb (r1 - 1) 5 = true := hr1
  refine ev_r_chk ?_
  intro c2
  refine ev_r_dr (r := r1) (fun v => [v]) c2 ?_
  refine ev_r_getC (pc := 4) (y := 132) (ci := 5) (f := 0) (fin := 2) (k' := ((r1 - 1) + 1)) (by decide +kernel) (by decide +kernel) (by exact (hr1.resolve_left c2)) rfl rfl ?_
  refine ev_r_iload_n (pc := 7) (k := 1) (v := Int32.ofInt a0) (by decide +kernel) (by rfl) ?_
  refine ev_r_iald (pc := 8) ha0 (by decide +kernel) (by exact (ev_fo_5_0 (hr1.resolve_left c2))) ?_
  intro x3 hx3
  refine ev_r_istore_n (pc := 9) (k := 2) (by decide +kernel) (by decide +kernel) rfl ?_
  refine ev_r_iload_n (pc := 10) (k := 2) (v := Int32.ofInt x3) (by decide +kernel) (by exact ev_lk_st1_self) ?_
  refine ev_r_bipush (pc := 11) (k := 17) (by decide +kernel) (by decide +kernel) ?_
  refine ev_r_icmp (pc := 13) (q := .ne) (o := 18) (t := 31) (c := x3 ≠ 17) (by decide +kernel) (ev_k_ne hx3 (by decide)) (by decide +kernel) ?_ ?_
  · intro c4
    refine ev_r_iload_n (pc := 31) (k := 2) (v := Int32.ofInt x3) (by decide +kernel) (by exact ev_lk_st1_self) ?_
    refine ev_r_bipush (pc := 32) (k := 18) (by decide +kernel) (by decide +kernel) ?_
    refine ev_r_icmp (pc := 34) (q := .ne) (o := 36) (t := 70) (c := x3 ≠ 18) (by decide +kernel) (ev_k_ne hx3 (by decide)) (by decide +kernel) ?_ ?_
    · intro c5
      refine ev_r_aload_n (pc := 70) (k := 0) (v := .ref 281) trivial (by decide +kernel) (by exact (ev_l1 (by rfl) (by decide) (by decide))) ?_
      refine ev_r_virt (pc := 71) (y := 135) (mi := 123) (na := 0) (k := 281) (as := []) (rest := []) (encc := ev_oI) (Q := ev_bl) (fun x S1 h => jt_123 d (by omega) Q   S x S1 h) (by exact ev_ob_281) (by decide +kernel) (by decide +kernel) (by decide +kernel) (by decide +kernel) rfl (by (try simp only [ev_sum, ev_nv_cat]); first | done | rfl) ?_
      intro x7 s6 hx7
      replace hx7 := ev_bl_rng hx7
      show ev_w _ _ _ _ _ [.int (Int32.ofInt x7)] _ _ _ _
      refine ev_r_if (pc := 74) (q := .ne) (o := 5) (t := 79) (c := x7 ≠ 0) (by decide +kernel) (ev_k_ne hx7 ev_rng0) (by decide +kernel) ?_ ?_
      · intro c8
        refine ev_r_iload_n (pc := 79) (k := 2) (v := Int32.ofInt x3) (by decide +kernel) (by exact ev_lk_st1_self) ?_
        refine ev_r_stat (pc := 80) (y := 145) (kind := 2) (mi := 61) (na := 1) (as := [.int (Int32.ofInt x3)]) (rest := []) (encc := ev_oI) (Q := ev_bl) (fun x S1 h => jt_61 d (by omega) Q x3 hx3 s6 x S1 h) (Or.inl rfl) (by decide +kernel) (by decide +kernel) (by decide +kernel) (by decide +kernel) rfl (by (try simp only [ev_sum, ev_nv_cat]); first | done | rfl) ?_
        intro x10 s9 hx10
        replace hx10 := ev_bl_rng hx10
        show ev_w _ _ _ _ _ [.int (Int32.ofInt x10)] _ _ _ _
        refine ev_r_if (pc := 83) (q := .eq) (o := 29) (t := 112) (c := x10 = 0) (by decide +kernel) (ev_k_eq hx10 ev_rng0) (by decide +kernel) ?_ ?_
        · intro c11
          refine ev_r_iload_n (pc := 112) (k := 2) (v := Int32.ofInt x3) (by decide +kernel) (by exact ev_lk_st1_self) ?_
          refine ev_r_ite ?_ ?_
          · intro c12
            refine ev_r_sw (pc := 113) (i := (.tableswitch 265 0 15 #[79, 265, 265, 265, 265, 265, 265, 137, 143, 149, 263, 155, 155, 190, 190, 214])) (len := 79) (pc' := 192) (by decide +kernel) (by rw [c12]; rw [ev_pure_tsw]; exact ev_tsw_c (o := 79) (by decide) (by decide) rfl (by decide +kernel)) ?_
            refine ev_r_aload_n (pc := 192) (k := 0) (v := .ref 281) trivial (by decide +kernel) (by exact (ev_l1 (by rfl) (by decide) (by decide))) ?_
            refine ev_r_aload_n (pc := 193) (k := 0) (v := .ref 281) trivial (by decide +kernel) (by exact (ev_l1 (by rfl) (by decide) (by decide))) ?_
            refine ev_r_getR (pc := 194) (y := 58) (ci := 8) (f := 0) (fin := 0) (t := 5) (by decide +kernel) (by decide +kernel) (by exact ev_ob_281) rfl rfl ?_
            intro r13 hr13
            have hr13 : r13 = 0 ∨ ev_isOb (r13 - 1) 5 = true := hr13
            refine ev_r_chk ?_
            intro c14
            refine ev_r_dr (r := r13) (fun v => [v, .ref 281]) c14 ?_
            refine ev_r_getC (pc := 197) (y := 139) (ci := 5) (f := 6) (fin := 2) (k' := ((r13 - 1) + 7)) (by decide +kernel) (by decide +kernel) (by exact (hr13.resolve_left c14)) rfl rfl ?_
            refine ev_r_iload_n (pc := 200) (k := 1) (v := Int32.ofInt a0) (by decide +kernel) (by exact (ev_lk_st1 (by rfl) (by decide) rfl)) ?_
            refine ev_r_iald (pc := 201) ha0 (by decide +kernel) (by exact (ev_fo_5_6 (hr13.resolve_left c14))) ?_
            intro x15 hx15
            refine ev_r_putI (pc := 202) (y := 96) (ci := 8) (f := 2) hx15 (by decide +kernel) (by decide +kernel) (by exact ev_ob_281) rfl rfl ?_
            intro s16
            refine ev_r_aload_n (pc := 205) (k := 0) (v := .ref 281) trivial (by decide +kernel) (by exact (ev_l1 (by rfl) (by decide) (by decide))) ?_
            refine ev_r_dup (pc := 206) rfl (by decide +kernel) ?_
            refine ev_r_getI (pc := 207) (y := 70) (ci := 8) (f := 3) (fin := 0) (by decide +kernel) (by decide +kernel) (by exact ev_ob_281) rfl ?_
            intro x17 hx17
            refine ev_r_iconst (pc := 210) (k := 1) (by decide +kernel) ?_
            refine ev_r_iadd (pc := 211) (by decide +kernel) ?_
            intro x18 hx18
            refine ev_r_putI (pc := 212) (y := 70) (ci := 8) (f := 3) hx18 (by decide +kernel) (by decide +kernel) (by exact ev_ob_281) rfl rfl ?_
            intro s19
            refine ev_r_aload_n (pc := 215) (k := 0) (v := .ref 281) trivial (by decide +kernel) (by exact (ev_l1 (by rfl) (by decide) (by decide))) ?_
            refine ev_r_getR (pc := 216) (y := 58) (ci := 8) (f := 0) (fin := 0) (t := 5) (by decide +kernel) (by decide +kernel) (by exact ev_ob_281) rfl rfl ?_
            intro r20 hr20
            have hr20 : r20 = 0 ∨ ev_isOb (r20 - 1) 5 = true := hr20
            refine ev_r_chk ?_
            intro c21
            refine ev_r_dr (r := r20) (fun v => [v]) c21 ?_
            refine ev_r_getC (pc := 219) (y := 152) (ci := 5) (f := 7) (fin := 2) (k' := ((r20 - 1) + 8)) (by decide +kernel) (by decide +kernel) (by exact (hr20.resolve_left c21)) rfl rfl ?_
            refine ev_r_iload_n (pc := 222) (k := 1) (v := Int32.ofInt a0) (by decide +kernel) (by exact (ev_lk_st1 (by rfl) (by decide) rfl)) ?_
            refine ev_r_lald (pc := 223) ha0 (by decide +kernel) (by exact (ev_fo_5_7 (hr20.resolve_left c21))) ?_
            intro y22
            refine ev_r_aload_n (pc := 224) (k := 0) (v := .ref 281) trivial (by decide +kernel) (by exact (ev_l1 (by rfl) (by decide) (by decide))) ?_
            refine ev_r_getR (pc := 225) (y := 58) (ci := 8) (f := 0) (fin := 0) (t := 5) (by decide +kernel) (by decide +kernel) (by exact ev_ob_281) rfl rfl ?_
            intro r23 hr23
            have hr23 : r23 = 0 ∨ ev_isOb (r23 - 1) 5 = true := hr23
            refine ev_r_chk ?_
            intro c24
            refine ev_r_dr (r := r23) (fun v => [v, .long y22]) c24 ?_
            refine ev_r_getC (pc := 228) (y := 156) (ci := 5) (f := 8) (fin := 2) (k' := ((r23 - 1) + 9)) (by decide +kernel) (by decide +kernel) (by exact (hr23.resolve_left c24)) rfl rfl ?_
            refine ev_r_iload_n (pc := 231) (k := 1) (v := Int32.ofInt a0) (by decide +kernel) (by exact (ev_lk_st1 (by rfl) (by decide) rfl)) ?_
            refine ev_r_lald (pc := 232) ha0 (by decide +kernel) (by exact (ev_fo_5_8 (hr23.resolve_left c24))) ?_
            intro y25
            refine ev_r_aload_n (pc := 233) (k := 0) (v := .ref 281) trivial (by decide +kernel) (by exact (ev_l1 (by rfl) (by decide) (by decide))) ?_
            refine ev_r_getR (pc := 234) (y := 27) (ci := 8) (f := 1) (fin := 0) (t := 10) (by decide +kernel) (by decide +kernel) (by exact ev_ob_281) rfl rfl ?_
            intro r26 hr26
            have hr26 : r26 = 0 ∨ ev_isOb (r26 - 1) 10 = true := hr26
            refine ev_r_aload_n (pc := 237) (k := 0) (v := .ref 281) trivial (by decide +kernel) (by exact (ev_l1 (by rfl) (by decide) (by decide))) ?_
            refine ev_r_getI (pc := 238) (y := 70) (ci := 8) (f := 3) (fin := 0) (by decide +kernel) (by decide +kernel) (by exact ev_ob_281) rfl ?_
            intro x27 hx27
            refine ev_r_iconst (pc := 241) (k := 1) (by decide +kernel) ?_
            refine ev_r_isub (pc := 242) (by decide +kernel) ?_
            intro x28 hx28
            refine ev_r_chk ?_
            intro c29
            refine ev_r_dr (r := r26) (fun v => [.int (Int32.ofInt x28), v, .long y25, .long y22]) c29 ?_
            refine ev_r_virt (pc := 243) (y := 55) (mi := 151) (na := 1) (k := (r26 - 1)) (as := [.int (Int32.ofInt x28)]) (rest := [.long y25, .long y22]) (encc := ev_oI) (Q := ev_rng) (fun x S1 h => jt_151 d (by omega) Q ((r26 - 1)) x28 (hr26.resolve_left c29) hx28 s19 x S1 h) (by exact (hr26.resolve_left c29)) (by decide +kernel) (by decide +kernel) (by decide +kernel) (by decide +kernel) rfl (by (try simp only [ev_sum, ev_nv_cat]); first | done | rfl) ?_
            intro x31 s30 hx31
            show ev_w _ _ _ _ _ [.int (Int32.ofInt x31), .long y25, .long y22] _ _ _ _
            refine ev_r_stat (pc := 246) (y := 159) (kind := 5) (mi := 214) (na := 3) (as := [.long y22, .long y25, .int (Int32.ofInt x31)]) (rest := []) (encc := ev_oI) (Q := ev_bl) (fun x S1 h => jt_214 d (by omega) Q y22 y25 x31 hx31 s30 x S1 h) (Or.inr (Or.inl rfl)) (by decide +kernel) (by decide +kernel) (by decide +kernel) (by decide +kernel) rfl (by (try simp only [ev_sum, ev_nv_cat]); first | done | rfl) ?_
            intro x33 s32 hx33
            replace hx33 := ev_bl_rng hx33
            show ev_w _ _ _ _ _ [.int (Int32.ofInt x33)] _ _ _ _
            refine ev_r_chk ?_
            intro c34
            exact ev_r_ireturn (pc := 249) (x := x33) (v := Int32.ofInt x33) (ty := .boolean) c34 (by decide +kernel) (by decide +kernel) (ev_ret_bl c34) rfl
          · intro c12
            refine ev_r_ite ?_ ?_
            · intro c35
              refine ev_r_sw (pc := 113) (i := (.tableswitch 265 0 15 #[79, 265, 265, 265, 265, 265, 265, 137, 143, 149, 263, 155, 155, 190, 190, 214])) (len := 79) (pc' := 378) (by decide +kernel) (by rcases c35 with e | e | e | e | e | e <;> (rw [e]; rw [ev_pure_tsw]; exact ev_tsw_c (o := 265) (by decide) (by decide) rfl (by decide +kernel))) ?_
              refine ev_r_aload_n (pc := 378) (k := 0) (v := .ref 281) trivial (by decide +kernel) (by exact (ev_l1 (by rfl) (by decide) (by decide))) ?_
              refine ev_r_iload_n (pc := 379) (k := 1) (v := Int32.ofInt a0) (by decide +kernel) (by exact (ev_lk_st1 (by rfl) (by decide) rfl)) ?_
              refine ev_r_virt (pc := 380) (y := 181) (mi := 140) (na := 1) (k := 281) (as := [.int (Int32.ofInt a0)]) (rest := []) (encc := ev_oI) (Q := ev_bl) (fun x S1 h => jt_140 d (by omega) Q a0 ha0 s9 x S1 h) (by exact ev_ob_281) (by decide +kernel) (by decide +kernel) (by decide +kernel) (by decide +kernel) rfl (by (try simp only [ev_sum, ev_nv_cat]); first | done | rfl) ?_
              intro x37 s36 hx37
              replace hx37 := ev_bl_rng hx37
              show ev_w _ _ _ _ _ [.int (Int32.ofInt x37)] _ _ _ _
              refine ev_r_chk ?_
              intro c38
              exact ev_r_ireturn (pc := 383) (x := x37) (v := Int32.ofInt x37) (ty := .boolean) c38 (by decide +kernel) (by decide +kernel) (ev_ret_bl c38) rfl
            · intro c35
              refine ev_r_ite ?_ ?_
              · intro c39
                refine ev_r_sw (pc := 113) (i := (.tableswitch 265 0 15 #[79, 265, 265, 265, 265, 265, 265, 137, 143, 149, 263, 155, 155, 190, 190, 214])) (len := 79) (pc' := 250) (by decide +kernel) (by rw [c39]; rw [ev_pure_tsw]; exact ev_tsw_c (o := 137) (by decide) (by decide) rfl (by decide +kernel)) ?_
                refine ev_r_aload_n (pc := 250) (k := 0) (v := .ref 281) trivial (by decide +kernel) (by exact (ev_l1 (by rfl) (by decide) (by decide))) ?_
                refine ev_r_iload_n (pc := 251) (k := 1) (v := Int32.ofInt a0) (by decide +kernel) (by exact (ev_lk_st1 (by rfl) (by decide) rfl)) ?_
                refine ev_r_virt (pc := 252) (y := 163) (mi := 137) (na := 1) (k := 281) (as := [.int (Int32.ofInt a0)]) (rest := []) (encc := ev_oI) (Q := ev_bl) (fun x S1 h => jt_137 d (by omega) Q a0 ha0 s9 x S1 h) (by exact ev_ob_281) (by decide +kernel) (by decide +kernel) (by decide +kernel) (by decide +kernel) rfl (by (try simp only [ev_sum, ev_nv_cat]); first | done | rfl) ?_
                intro x41 s40 hx41
                replace hx41 := ev_bl_rng hx41
                show ev_w _ _ _ _ _ [.int (Int32.ofInt x41)] _ _ _ _
                refine ev_r_chk ?_
                intro c42
                exact ev_r_ireturn (pc := 255) (x := x41) (v := Int32.ofInt x41) (ty := .boolean) c42 (by decide +kernel) (by decide +kernel) (ev_ret_bl c42) rfl
              · intro c39
                refine ev_r_ite ?_ ?_
                · intro c43
                  refine ev_r_sw (pc := 113) (i := (.tableswitch 265 0 15 #[79, 265, 265, 265, 265, 265, 265, 137, 143, 149, 263, 155, 155, 190, 190, 214])) (len := 79) (pc' := 256) (by decide +kernel) (by rw [c43]; rw [ev_pure_tsw]; exact ev_tsw_c (o := 143) (by decide) (by decide) rfl (by decide +kernel)) ?_
                  refine ev_r_aload_n (pc := 256) (k := 0) (v := .ref 281) trivial (by decide +kernel) (by exact (ev_l1 (by rfl) (by decide) (by decide))) ?_
                  refine ev_r_iload_n (pc := 257) (k := 1) (v := Int32.ofInt a0) (by decide +kernel) (by exact (ev_lk_st1 (by rfl) (by decide) rfl)) ?_
                  refine ev_r_virt (pc := 258) (y := 166) (mi := 138) (na := 1) (k := 281) (as := [.int (Int32.ofInt a0)]) (rest := []) (encc := ev_oI) (Q := ev_bl) (fun x S1 h => jt_138 d (by omega) Q a0 ha0 s9 x S1 h) (by exact ev_ob_281) (by decide +kernel) (by decide +kernel) (by decide +kernel) (by decide +kernel) rfl (by (try simp only [ev_sum, ev_nv_cat]); first | done | rfl) ?_
                  intro x45 s44 hx45
                  replace hx45 := ev_bl_rng hx45
                  show ev_w _ _ _ _ _ [.int (Int32.ofInt x45)] _ _ _ _
                  refine ev_r_chk ?_
                  intro c46
                  exact ev_r_ireturn (pc := 261) (x := x45) (v := Int32.ofInt x45) (ty := .boolean) c46 (by decide +kernel) (by decide +kernel) (ev_ret_bl c46) rfl
                · intro c43
                  refine ev_r_ite ?_ ?_
                  · intro c47
                    refine ev_r_sw (pc := 113) (i := (.tableswitch 265 0 15 #[79, 265, 265, 265, 265, 265, 265, 137, 143, 149, 263, 155, 155, 190, 190, 214])) (len := 79) (pc' := 262) (by decide +kernel) (by rw [c47]; rw [ev_pure_tsw]; exact ev_tsw_c (o := 149) (by decide) (by decide) rfl (by decide +kernel)) ?_
                    refine ev_r_aload_n (pc := 262) (k := 0) (v := .ref 281) trivial (by decide +kernel) (by exact (ev_l1 (by rfl) (by decide) (by decide))) ?_
                    refine ev_r_iload_n (pc := 263) (k := 1) (v := Int32.ofInt a0) (by decide +kernel) (by exact (ev_lk_st1 (by rfl) (by decide) rfl)) ?_
                    refine ev_r_virt (pc := 264) (y := 169) (mi := 139) (na := 1) (k := 281) (as := [.int (Int32.ofInt a0)]) (rest := []) (encc := ev_oI) (Q := ev_bl) (fun x S1 h => jt_139 d (by omega) Q a0 ha0 s9 x S1 h) (by exact ev_ob_281) (by decide +kernel) (by decide +kernel) (by decide +kernel) (by decide +kernel) rfl (by (try simp only [ev_sum, ev_nv_cat]); first | done | rfl) ?_
                    intro x49 s48 hx49
                    replace hx49 := ev_bl_rng hx49
                    show ev_w _ _ _ _ _ [.int (Int32.ofInt x49)] _ _ _ _
                    refine ev_r_chk ?_
                    intro c50
                    exact ev_r_ireturn (pc := 267) (x := x49) (v := Int32.ofInt x49) (ty := .boolean) c50 (by decide +kernel) (by decide +kernel) (ev_ret_bl c50) rfl
                  · intro c47
                    refine ev_r_ite ?_ ?_
                    · intro c51
                      refine ev_r_sw (pc := 113) (i := (.tableswitch 265 0 15 #[79, 265, 265, 265, 265, 265, 265, 137, 143, 149, 263, 155, 155, 190, 190, 214])) (len := 79) (pc' := 376) (by decide +kernel) (by rw [c51]; rw [ev_pure_tsw]; exact ev_tsw_c (o := 263) (by decide) (by decide) rfl (by decide +kernel)) ?_
                      refine ev_r_iconst (pc := 376) (k := 0) (by decide +kernel) ?_
                      exact ev_r_ireturn (pc := 377) (x := 0) (v := Int32.ofInt 0) (ty := .boolean) (by decide : ev_bl 0) (by decide +kernel) (by decide +kernel) (ev_ret_bl (by decide : ev_bl 0)) rfl
                    · intro c51
                      refine ev_r_ite ?_ ?_
                      · intro c52
                        refine ev_r_sw (pc := 113) (i := (.tableswitch 265 0 15 #[79, 265, 265, 265, 265, 265, 265, 137, 143, 149, 263, 155, 155, 190, 190, 214])) (len := 79) (pc' := 268) (by decide +kernel) (by rcases c52 with e | e <;> (rw [e]; rw [ev_pure_tsw]; exact ev_tsw_c (o := 155) (by decide) (by decide) rfl (by decide +kernel))) ?_
                        refine ev_r_aload_n (pc := 268) (k := 0) (v := .ref 281) trivial (by decide +kernel) (by exact (ev_l1 (by rfl) (by decide) (by decide))) ?_
                        refine ev_r_iload_n (pc := 269) (k := 2) (v := Int32.ofInt x3) (by decide +kernel) (by exact ev_lk_st1_self) ?_
                        refine ev_r_bipush (pc := 270) (k := 11) (by decide +kernel) (by decide +kernel) ?_
                        refine ev_r_jn (Q := fun K => ∀ (x53 : Int) (hx53 : ev_rng x53), ∀ (s57 : ev_St) (w54 : List (Nat × Value)), ev_lk w54 0 = some (.ref 281) → ev_lk w54 1 = some (.int (Int32.ofInt a0)) → ev_w none (ev_Mof 136) d 280 w54 [.int (Int32.ofInt x53), .ref 281] s57 (K x53 s57) ev_eI ev_bl) ?_ ?_
                        · intro x53 hx53 s57 w54 e55 e56
                          refine ev_r_iconst (pc := 280) (k := 0) (by decide +kernel) ?_
                          refine ev_r_aload_n (pc := 281) (k := 0) (v := .ref 281) trivial (by decide +kernel) (by exact e55) ?_
                          refine ev_r_getI (pc := 282) (y := 73) (ci := 8) (f := 4) (fin := 0) (by decide +kernel) (by decide +kernel) (by exact ev_ob_281) rfl ?_
                          intro x58 hx58
                          refine ev_r_virt (pc := 285) (y := 172) (mi := 130) (na := 3) (k := 281) (as := [.int (Int32.ofInt x53), .int (Int32.ofInt 0), .int (Int32.ofInt x58)]) (rest := []) (encc := ev_oU) (Q := ev_PU) (fun x S1 h => jt_130 d (by omega) Q x53 0 x58 hx53 (by decide) hx58 s57 x S1 h) (by exact ev_ob_281) (by decide +kernel) (by decide +kernel) (by decide +kernel) (by decide +kernel) rfl (by (try simp only [ev_sum, ev_nv_cat]); first | done | rfl) ?_
                          intro _ s59 _
                          show ev_w _ _ _ _ _ [] _ _ _ _
                          refine ev_r_aload_n (pc := 288) (k := 0) (v := .ref 281) trivial (by decide +kernel) (by exact e55) ?_
                          refine ev_r_aload_n (pc := 289) (k := 0) (v := .ref 281) trivial (by decide +kernel) (by exact e55) ?_
                          refine ev_r_getR (pc := 290) (y := 58) (ci := 8) (f := 0) (fin := 0) (t := 5) (by decide +kernel) (by decide +kernel) (by exact ev_ob_281) rfl rfl ?_
                          intro r60 hr60
                          have hr60 : r60 = 0 ∨ ev_isOb (r60 - 1) 5 = true := hr60
                          refine ev_r_chk ?_
                          intro c61
                          refine ev_r_dr (r := r60) (fun v => [v, .ref 281]) c61 ?_
                          refine ev_r_getC (pc := 293) (y := 139) (ci := 5) (f := 6) (fin := 2) (k' := ((r60 - 1) + 7)) (by decide +kernel) (by decide +kernel) (by exact (hr60.resolve_left c61)) rfl rfl ?_
                          refine ev_r_iload_n (pc := 296) (k := 1) (v := Int32.ofInt a0) (by decide +kernel) (by exact e56) ?_
                          refine ev_r_iald (pc := 297) ha0 (by decide +kernel) (by exact (ev_fo_5_6 (hr60.resolve_left c61))) ?_
                          intro x62 hx62
                          refine ev_r_putI (pc := 298) (y := 96) (ci := 8) (f := 2) hx62 (by decide +kernel) (by decide +kernel) (by exact ev_ob_281) rfl rfl ?_
                          intro s63
                          refine ev_r_iconst (pc := 301) (k := 1) (by decide +kernel) ?_
                          exact ev_r_ireturn (pc := 302) (x := 1) (v := Int32.ofInt 1) (ty := .boolean) (by decide : ev_bl 1) (by decide +kernel) (by decide +kernel) (ev_ret_bl (by decide : ev_bl 1)) rfl
                        · intro K280 hK280
                          refine ev_r_icmp (pc := 272) (q := .ne) (o := 7) (t := 279) (c := x3 ≠ 11) (by decide +kernel) (ev_k_ne hx3 (by decide)) (by decide +kernel) ?_ ?_
                          · intro c64
                            refine ev_r_iconst (pc := 279) (k := 3) (by decide +kernel) ?_
                            exact hK280 3 (by decide) s9 _ (by exact (ev_l1 (by rfl) (by decide) (by decide))) (by exact (ev_lk_st1 (by rfl) (by decide) rfl))
                          · intro c64
                            refine ev_r_iconst (pc := 275) (k := 2) (by decide +kernel) ?_
                            refine ev_r_goto (pc := 276) (o := 4) (t := 280) (by decide +kernel) (by decide +kernel) ?_
                            exact hK280 2 (by decide) s9 _ (by exact (ev_l1 (by rfl) (by decide) (by decide))) (by exact (ev_lk_st1 (by rfl) (by decide) rfl))
                      · intro c52
                        refine ev_r_ite ?_ ?_
                        · intro c65
                          refine ev_r_sw (pc := 113) (i := (.tableswitch 265 0 15 #[79, 265, 265, 265, 265, 265, 265, 137, 143, 149, 263, 155, 155, 190, 190, 214])) (len := 79) (pc' := 303) (by decide +kernel) (by rcases c65 with e | e <;> (rw [e]; rw [ev_pure_tsw]; exact ev_tsw_c (o := 190) (by decide) (by decide) rfl (by decide +kernel))) ?_
                          refine ev_r_aload_n (pc := 303) (k := 0) (v := .ref 281) trivial (by decide +kernel) (by exact (ev_l1 (by rfl) (by decide) (by decide))) ?_
                          refine ev_r_aload_n (pc := 304) (k := 0) (v := .ref 281) trivial (by decide +kernel) (by exact (ev_l1 (by rfl) (by decide) (by decide))) ?_
                          refine ev_r_aload_n (pc := 305) (k := 0) (v := .ref 281) trivial (by decide +kernel) (by exact (ev_l1 (by rfl) (by decide) (by decide))) ?_
                          refine ev_r_getI (pc := 306) (y := 73) (ci := 8) (f := 4) (fin := 0) (by decide +kernel) (by decide +kernel) (by exact ev_ob_281) rfl ?_
                          intro x66 hx66
                          refine ev_r_iconst (pc := 309) (k := 0) (by decide +kernel) ?_
                          refine ev_r_iconst (pc := 310) (k := 0) (by decide +kernel) ?_
                          refine ev_r_aload_n (pc := 311) (k := 0) (v := .ref 281) trivial (by decide +kernel) (by exact (ev_l1 (by rfl) (by decide) (by decide))) ?_
                          refine ev_r_getI (pc := 312) (y := 70) (ci := 8) (f := 3) (fin := 0) (by decide +kernel) (by decide +kernel) (by exact ev_ob_281) rfl ?_
                          intro x67 hx67
                          refine ev_r_virt (pc := 315) (y := 142) (mi := 124) (na := 4) (k := 281) (as := [.int (Int32.ofInt x66), .int (Int32.ofInt 0), .int (Int32.ofInt 0), .int (Int32.ofInt x67)]) (rest := [.ref 281]) (encc := ev_oI) (Q := ev_rng) (fun x S1 h => jt_124 d (by omega) Q x66 0 0 x67 hx66 (by decide) (by decide) hx67 s9 x S1 h) (by exact ev_ob_281) (by decide +kernel) (by decide +kernel) (by decide +kernel) (by decide +kernel) rfl (by (try simp only [ev_sum, ev_nv_cat]); first | done | rfl) ?_
                          intro x69 s68 hx69
                          show ev_w _ _ _ _ _ [.int (Int32.ofInt x69), .ref 281] _ _ _ _
                          refine ev_r_putI (pc := 318) (y := 73) (ci := 8) (f := 4) hx69 (by decide +kernel) (by decide +kernel) (by exact ev_ob_281) rfl rfl ?_
                          intro s70
                          refine ev_r_aload_n (pc := 321) (k := 0) (v := .ref 281) trivial (by decide +kernel) (by exact (ev_l1 (by rfl) (by decide) (by decide))) ?_
                          refine ev_r_iload_n (pc := 322) (k := 1) (v := Int32.ofInt a0) (by decide +kernel) (by exact (ev_lk_st1 (by rfl) (by decide) rfl)) ?_
                          refine ev_r_virt (pc := 323) (y := 175) (mi := 143) (na := 1) (k := 281) (as := [.int (Int32.ofInt a0)]) (rest := []) (encc := ev_oI) (Q := ev_bl) (fun x S1 h => jt_143 d (by omega) Q a0 ha0 s70 x S1 h) (by exact ev_ob_281) (by decide +kernel) (by decide +kernel) (by decide +kernel) (by decide +kernel) rfl (by (try simp only [ev_sum, ev_nv_cat]); first | done | rfl) ?_
                          intro x72 s71 hx72
                          replace hx72 := ev_bl_rng hx72
                          show ev_w _ _ _ _ _ [.int (Int32.ofInt x72)] _ _ _ _
                          refine ev_r_chk ?_
                          intro c73
                          exact ev_r_ireturn (pc := 326) (x := x72) (v := Int32.ofInt x72) (ty := .boolean) c73 (by decide +kernel) (by decide +kernel) (ev_ret_bl c73) rfl
                        · intro c65
                          refine ev_r_ite ?_ ?_
                          · intro c74
                            refine ev_r_sw (pc := 113) (i := (.tableswitch 265 0 15 #[79, 265, 265, 265, 265, 265, 265, 137, 143, 149, 263, 155, 155, 190, 190, 214])) (len := 79) (pc' := 327) (by decide +kernel) (by rw [c74]; rw [ev_pure_tsw]; exact ev_tsw_c (o := 214) (by decide) (by decide) rfl (by decide +kernel)) ?_
                            refine ev_r_aload_n (pc := 327) (k := 0) (v := .ref 281) trivial (by decide +kernel) (by exact (ev_l1 (by rfl) (by decide) (by decide))) ?_
                            refine ev_r_getR (pc := 328) (y := 58) (ci := 8) (f := 0) (fin := 0) (t := 5) (by decide +kernel) (by decide +kernel) (by exact ev_ob_281) rfl rfl ?_
                            intro r75 hr75
                            have hr75 : r75 = 0 ∨ ev_isOb (r75 - 1) 5 = true := hr75
                            refine ev_r_chk ?_
                            intro c76
                            refine ev_r_dr (r := r75) (fun v => [v]) c76 ?_
                            refine ev_r_getC (pc := 331) (y := 178) (ci := 5) (f := 4) (fin := 2) (k' := ((r75 - 1) + 5)) (by decide +kernel) (by decide +kernel) (by exact (hr75.resolve_left c76)) rfl rfl ?_
                            refine ev_r_iload_n (pc := 334) (k := 1) (v := Int32.ofInt a0) (by decide +kernel) (by exact (ev_lk_st1 (by rfl) (by decide) rfl)) ?_
                            refine ev_r_iald (pc := 335) ha0 (by decide +kernel) (by exact (ev_fo_5_4 (hr75.resolve_left c76))) ?_
                            intro x77 hx77
                            refine ev_r_jn (Q := fun K => ∀ (s81 : ev_St) (w78 : List (Nat × Value)), ev_lk w78 0 = some (.ref 281) → ev_lk w78 1 = some (.int (Int32.ofInt a0)) → ev_w none (ev_Mof 136) d 361 w78 [] s81 (K  s81) ev_eI ev_bl) ?_ ?_
                            · intro  s81 w78 e79 e80
                              refine ev_r_aload_n (pc := 361) (k := 0) (v := .ref 281) trivial (by decide +kernel) (by exact e79) ?_
                              refine ev_r_aload_n (pc := 362) (k := 0) (v := .ref 281) trivial (by decide +kernel) (by exact e79) ?_
                              refine ev_r_getR (pc := 363) (y := 58) (ci := 8) (f := 0) (fin := 0) (t := 5) (by decide +kernel) (by decide +kernel) (by exact ev_ob_281) rfl rfl ?_
                              intro r82 hr82
                              have hr82 : r82 = 0 ∨ ev_isOb (r82 - 1) 5 = true := hr82
                              refine ev_r_chk ?_
                              intro c83
                              refine ev_r_dr (r := r82) (fun v => [v, .ref 281]) c83 ?_
                              refine ev_r_getC (pc := 366) (y := 93) (ci := 5) (f := 5) (fin := 2) (k' := ((r82 - 1) + 6)) (by decide +kernel) (by decide +kernel) (by exact (hr82.resolve_left c83)) rfl rfl ?_
                              refine ev_r_iload_n (pc := 369) (k := 1) (v := Int32.ofInt a0) (by decide +kernel) (by exact e80) ?_
                              refine ev_r_iald (pc := 370) ha0 (by decide +kernel) (by exact (ev_fo_5_5 (hr82.resolve_left c83))) ?_
                              intro x84 hx84
                              refine ev_r_putI (pc := 371) (y := 96) (ci := 8) (f := 2) hx84 (by decide +kernel) (by decide +kernel) (by exact ev_ob_281) rfl rfl ?_
                              intro s85
                              refine ev_r_iconst (pc := 374) (k := 1) (by decide +kernel) ?_
                              exact ev_r_ireturn (pc := 375) (x := 1) (v := Int32.ofInt 1) (ty := .boolean) (by decide : ev_bl 1) (by decide +kernel) (by decide +kernel) (ev_ret_bl (by decide : ev_bl 1)) rfl
                            · intro K361 hK361
                              refine ev_r_if (pc := 336) (q := .lt) (o := 25) (t := 361) (c := x77 < 0) (by decide +kernel) (ev_k_lt hx77 ev_rng0) (by decide +kernel) ?_ ?_
                              · intro c86
                                exact hK361  s9 _ (by exact (ev_l1 (by rfl) (by decide) (by decide))) (by exact (ev_lk_st1 (by rfl) (by decide) rfl))
                              · intro c86
                                refine ev_r_aload_n (pc := 339) (k := 0) (v := .ref 281) trivial (by decide +kernel) (by exact (ev_l1 (by rfl) (by decide) (by decide))) ?_
                                refine ev_r_iconst (pc := 340) (k := 0) (by decide +kernel) ?_
                                refine ev_r_iconst (pc := 341) (k := 4) (by decide +kernel) ?_
                                refine ev_r_aload_n (pc := 342) (k := 0) (v := .ref 281) trivial (by decide +kernel) (by exact (ev_l1 (by rfl) (by decide) (by decide))) ?_
                                refine ev_r_getR (pc := 343) (y := 58) (ci := 8) (f := 0) (fin := 0) (t := 5) (by decide +kernel) (by decide +kernel) (by exact ev_ob_281) rfl rfl ?_
                                intro r87 hr87
                                have hr87 : r87 = 0 ∨ ev_isOb (r87 - 1) 5 = true := hr87
                                refine ev_r_chk ?_
                                intro c88
                                refine ev_r_dr (r := r87) (fun v => [v, .int (Int32.ofInt 4), .int (Int32.ofInt 0), .ref 281]) c88 ?_
                                refine ev_r_getC (pc := 346) (y := 178) (ci := 5) (f := 4) (fin := 2) (k' := ((r87 - 1) + 5)) (by decide +kernel) (by decide +kernel) (by exact (hr87.resolve_left c88)) rfl rfl ?_
                                refine ev_r_iload_n (pc := 349) (k := 1) (v := Int32.ofInt a0) (by decide +kernel) (by exact (ev_lk_st1 (by rfl) (by decide) rfl)) ?_
                                refine ev_r_iald (pc := 350) ha0 (by decide +kernel) (by exact (ev_fo_5_4 (hr87.resolve_left c88))) ?_
                                intro x89 hx89
                                refine ev_r_imul (pc := 351) (by decide +kernel) ?_
                                intro x90 hx90
                                refine ev_r_iconst (pc := 352) (k := 0) (by decide +kernel) ?_
                                refine ev_r_iadd (pc := 353) (by decide +kernel) ?_
                                intro x91 hx91
                                refine ev_r_aload_n (pc := 354) (k := 0) (v := .ref 281) trivial (by decide +kernel) (by exact (ev_l1 (by rfl) (by decide) (by decide))) ?_
                                refine ev_r_getI (pc := 355) (y := 73) (ci := 8) (f := 4) (fin := 0) (by decide +kernel) (by decide +kernel) (by exact ev_ob_281) rfl ?_
                                intro x92 hx92
                                refine ev_r_virt (pc := 358) (y := 172) (mi := 130) (na := 3) (k := 281) (as := [.int (Int32.ofInt 0), .int (Int32.ofInt x91), .int (Int32.ofInt x92)]) (rest := []) (encc := ev_oU) (Q := ev_PU) (fun x S1 h => jt_130 d (by omega) Q 0 x91 x92 (by decide) hx91 hx92 s9 x S1 h) (by exact ev_ob_281) (by decide +kernel) (by decide +kernel) (by decide +kernel) (by decide +kernel) rfl (by (try simp only [ev_sum, ev_nv_cat]); first | done | rfl) ?_
                                intro _ s93 _
                                show ev_w _ _ _ _ _ [] _ _ _ _
                                exact hK361  s93 _ (by exact (ev_l1 (by rfl) (by decide) (by decide))) (by exact (ev_lk_st1 (by rfl) (by decide) rfl))
                          · intro c74
                            refine ev_r_sw (pc := 113) (i := (.tableswitch 265 0 15 #[79, 265, 265, 265, 265, 265, 265, 137, 143, 149, 263, 155, 155, 190, 190, 214])) (len := 79) (pc' := 378) (by decide +kernel) (by rw [ev_pure_tsw]; exact ev_tsw_d hx3 (by omega) (by decide +kernel)) ?_
                            refine ev_r_aload_n (pc := 378) (k := 0) (v := .ref 281) trivial (by decide +kernel) (by exact (ev_l1 (by rfl) (by decide) (by decide))) ?_
                            refine ev_r_iload_n (pc := 379) (k := 1) (v := Int32.ofInt a0) (by decide +kernel) (by exact (ev_lk_st1 (by rfl) (by decide) rfl)) ?_
                            refine ev_r_virt (pc := 380) (y := 181) (mi := 140) (na := 1) (k := 281) (as := [.int (Int32.ofInt a0)]) (rest := []) (encc := ev_oI) (Q := ev_bl) (fun x S1 h => jt_140 d (by omega) Q a0 ha0 s9 x S1 h) (by exact ev_ob_281) (by decide +kernel) (by decide +kernel) (by decide +kernel) (by decide +kernel) rfl (by (try simp only [ev_sum, ev_nv_cat]); first | done | rfl) ?_
                            intro x95 s94 hx95
                            replace hx95 := ev_bl_rng hx95
                            show ev_w _ _ _ _ _ [.int (Int32.ofInt x95)] _ _ _ _
                            refine ev_r_chk ?_
                            intro c96
                            exact ev_r_ireturn (pc := 383) (x := x95) (v := Int32.ofInt x95) (ty := .boolean) c96 (by decide +kernel) (by decide +kernel) (ev_ret_bl c96) rfl
        · intro c11
          refine ev_r_aload_n (pc := 86) (k := 0) (v := .ref 281) trivial (by decide +kernel) (by exact (ev_l1 (by rfl) (by decide) (by decide))) ?_
          refine ev_r_aload_n (pc := 87) (k := 0) (v := .ref 281) trivial (by decide +kernel) (by exact (ev_l1 (by rfl) (by decide) (by decide))) ?_
          refine ev_r_getR (pc := 88) (y := 58) (ci := 8) (f := 0) (fin := 0) (t := 5) (by decide +kernel) (by decide +kernel) (by exact ev_ob_281) rfl rfl ?_
          intro r97 hr97
          have hr97 : r97 = 0 ∨ ev_isOb (r97 - 1) 5 = true := hr97
          refine ev_r_chk ?_
          intro c98
          refine ev_r_dr (r := r97) (fun v => [v, .ref 281]) c98 ?_
          refine ev_r_getC (pc := 91) (y := 139) (ci := 5) (f := 6) (fin := 2) (k' := ((r97 - 1) + 7)) (by decide +kernel) (by decide +kernel) (by exact (hr97.resolve_left c98)) rfl rfl ?_
          refine ev_r_iload_n (pc := 94) (k := 1) (v := Int32.ofInt a0) (by decide +kernel) (by exact (ev_lk_st1 (by rfl) (by decide) rfl)) ?_
          refine ev_r_iald (pc := 95) ha0 (by decide +kernel) (by exact (ev_fo_5_6 (hr97.resolve_left c98))) ?_
          intro x99 hx99
          refine ev_r_putI (pc := 96) (y := 96) (ci := 8) (f := 2) hx99 (by decide +kernel) (by decide +kernel) (by exact ev_ob_281) rfl rfl ?_
          intro s100
          refine ev_r_aload_n (pc := 99) (k := 0) (v := .ref 281) trivial (by decide +kernel) (by exact (ev_l1 (by rfl) (by decide) (by decide))) ?_
          refine ev_r_getR (pc := 100) (y := 27) (ci := 8) (f := 1) (fin := 0) (t := 10) (by decide +kernel) (by decide +kernel) (by exact ev_ob_281) rfl rfl ?_
          intro r101 hr101
          have hr101 : r101 = 0 ∨ ev_isOb (r101 - 1) 10 = true := hr101
          refine ev_r_iload_n (pc := 103) (k := 2) (v := Int32.ofInt x3) (by decide +kernel) (by exact ev_lk_st1_self) ?_
          refine ev_r_aload_n (pc := 104) (k := 0) (v := .ref 281) trivial (by decide +kernel) (by exact (ev_l1 (by rfl) (by decide) (by decide))) ?_
          refine ev_r_getI (pc := 105) (y := 70) (ci := 8) (f := 3) (fin := 0) (by decide +kernel) (by decide +kernel) (by exact ev_ob_281) rfl ?_
          intro x102 hx102
          refine ev_r_chk ?_
          intro c103
          refine ev_r_dr (r := r101) (fun v => [.int (Int32.ofInt x102), .int (Int32.ofInt x3), v]) c103 ?_
          refine ev_r_virt (pc := 108) (y := 148) (mi := 155) (na := 2) (k := (r101 - 1)) (as := [.int (Int32.ofInt x3), .int (Int32.ofInt x102)]) (rest := []) (encc := ev_oI) (Q := ev_bl) (fun x S1 h => jt_155 d (by omega) Q ((r101 - 1)) x3 x102 (hr101.resolve_left c103) hx3 hx102 s100 x S1 h) (by exact (hr101.resolve_left c103)) (by decide +kernel) (by decide +kernel) (by decide +kernel) (by decide +kernel) rfl (by (try simp only [ev_sum, ev_nv_cat]); first | done | rfl) ?_
          intro x105 s104 hx105
          replace hx105 := ev_bl_rng hx105
          show ev_w _ _ _ _ _ [.int (Int32.ofInt x105)] _ _ _ _
          refine ev_r_chk ?_
          intro c106
          exact ev_r_ireturn (pc := 111) (x := x105) (v := Int32.ofInt x105) (ty := .boolean) c106 (by decide +kernel) (by decide +kernel) (ev_ret_bl c106) rfl
      · intro c8
        refine ev_r_iconst (pc := 77) (k := 0) (by decide +kernel) ?_
        exact ev_r_ireturn (pc := 78) (x := 0) (v := Int32.ofInt 0) (ty := .boolean) (by decide : ev_bl 0) (by decide +kernel) (by decide +kernel) (ev_ret_bl (by decide : ev_bl 0)) rfl
    · intro c5
      refine ev_r_aload_n (pc := 37) (k := 0) (v := .ref 281) trivial (by decide +kernel) (by exact (ev_l1 (by rfl) (by decide) (by decide))) ?_
      refine ev_r_aload_n (pc := 38) (k := 0) (v := .ref 281) trivial (by decide +kernel) (by exact (ev_l1 (by rfl) (by decide) (by decide))) ?_
      refine ev_r_aload_n (pc := 39) (k := 0) (v := .ref 281) trivial (by decide +kernel) (by exact (ev_l1 (by rfl) (by decide) (by decide))) ?_
      refine ev_r_getI (pc := 40) (y := 73) (ci := 8) (f := 4) (fin := 0) (by decide +kernel) (by decide +kernel) (by exact ev_ob_281) rfl ?_
      intro x107 hx107
      refine ev_r_iconst (pc := 43) (k := 1) (by decide +kernel) ?_
      refine ev_r_aload_n (pc := 44) (k := 0) (v := .ref 281) trivial (by decide +kernel) (by exact (ev_l1 (by rfl) (by decide) (by decide))) ?_
      refine ev_r_getI (pc := 45) (y := 70) (ci := 8) (f := 3) (fin := 0) (by decide +kernel) (by decide +kernel) (by exact ev_ob_281) rfl ?_
      intro x108 hx108
      refine ev_r_iconst (pc := 48) (k := 0) (by decide +kernel) ?_
      refine ev_r_virt (pc := 49) (y := 142) (mi := 124) (na := 4) (k := 281) (as := [.int (Int32.ofInt x107), .int (Int32.ofInt 1), .int (Int32.ofInt x108), .int (Int32.ofInt 0)]) (rest := [.ref 281]) (encc := ev_oI) (Q := ev_rng) (fun x S1 h => jt_124 d (by omega) Q x107 1 x108 0 hx107 (by decide) hx108 (by decide) S x S1 h) (by exact ev_ob_281) (by decide +kernel) (by decide +kernel) (by decide +kernel) (by decide +kernel) rfl (by (try simp only [ev_sum, ev_nv_cat]); first | done | rfl) ?_
      intro x110 s109 hx110
      show ev_w _ _ _ _ _ [.int (Int32.ofInt x110), .ref 281] _ _ _ _
      refine ev_r_putI (pc := 52) (y := 73) (ci := 8) (f := 4) hx110 (by decide +kernel) (by decide +kernel) (by exact ev_ob_281) rfl rfl ?_
      intro s111
      refine ev_r_aload_n (pc := 55) (k := 0) (v := .ref 281) trivial (by decide +kernel) (by exact (ev_l1 (by rfl) (by decide) (by decide))) ?_
      refine ev_r_aload_n (pc := 56) (k := 0) (v := .ref 281) trivial (by decide +kernel) (by exact (ev_l1 (by rfl) (by decide) (by decide))) ?_
      refine ev_r_getR (pc := 57) (y := 58) (ci := 8) (f := 0) (fin := 0) (t := 5) (by decide +kernel) (by decide +kernel) (by exact ev_ob_281) rfl rfl ?_
      intro r112 hr112
      have hr112 : r112 = 0 ∨ ev_isOb (r112 - 1) 5 = true := hr112
      refine ev_r_chk ?_
      intro c113
      refine ev_r_dr (r := r112) (fun v => [v, .ref 281]) c113 ?_
      refine ev_r_getC (pc := 60) (y := 93) (ci := 5) (f := 5) (fin := 2) (k' := ((r112 - 1) + 6)) (by decide +kernel) (by decide +kernel) (by exact (hr112.resolve_left c113)) rfl rfl ?_
      refine ev_r_iload_n (pc := 63) (k := 1) (v := Int32.ofInt a0) (by decide +kernel) (by exact (ev_lk_st1 (by rfl) (by decide) rfl)) ?_
      refine ev_r_iald (pc := 64) ha0 (by decide +kernel) (by exact (ev_fo_5_5 (hr112.resolve_left c113))) ?_
      intro x114 hx114
      refine ev_r_putI (pc := 65) (y := 96) (ci := 8) (f := 2) hx114 (by decide +kernel) (by decide +kernel) (by exact ev_ob_281) rfl rfl ?_
      intro s115
      refine ev_r_iconst (pc := 68) (k := 1) (by decide +kernel) ?_
      exact ev_r_ireturn (pc := 69) (x := 1) (v := Int32.ofInt 1) (ty := .boolean) (by decide : ev_bl 1) (by decide +kernel) (by decide +kernel) (ev_ret_bl (by decide : ev_bl 1)) rfl
  · intro c4
    refine ev_r_aload_n (pc := 16) (k := 0) (v := .ref 281) trivial (by decide +kernel) (by exact (ev_l1 (by rfl) (by decide) (by decide))) ?_
    refine ev_r_aload_n (pc := 17) (k := 0) (v := .ref 281) trivial (by decide +kernel) (by exact (ev_l1 (by rfl) (by decide) (by decide))) ?_
    refine ev_r_getR (pc := 18) (y := 58) (ci := 8) (f := 0) (fin := 0) (t := 5) (by decide +kernel) (by decide +kernel) (by exact ev_ob_281) rfl rfl ?_
    intro r116 hr116
    have hr116 : r116 = 0 ∨ ev_isOb (r116 - 1) 5 = true := hr116
    refine ev_r_chk ?_
    intro c117
    refine ev_r_dr (r := r116) (fun v => [v, .ref 281]) c117 ?_
    refine ev_r_getC (pc := 21) (y := 93) (ci := 5) (f := 5) (fin := 2) (k' := ((r116 - 1) + 6)) (by decide +kernel) (by decide +kernel) (by exact (hr116.resolve_left c117)) rfl rfl ?_
    refine ev_r_iload_n (pc := 24) (k := 1) (v := Int32.ofInt a0) (by decide +kernel) (by exact (ev_lk_st1 (by rfl) (by decide) rfl)) ?_
    refine ev_r_iald (pc := 25) ha0 (by decide +kernel) (by exact (ev_fo_5_5 (hr116.resolve_left c117))) ?_
    intro x118 hx118
    refine ev_r_putI (pc := 26) (y := 96) (ci := 8) (f := 2) hx118 (by decide +kernel) (by decide +kernel) (by exact ev_ob_281) rfl rfl ?_
    intro s119
    refine ev_r_iconst (pc := 29) (k := 1) (by decide +kernel) ?_
    exact ev_r_ireturn (pc := 30) (x := 1) (v := Int32.ofInt 1) (ty := .boolean) (by decide : ev_bl 1) (by decide +kernel) (by decide +kernel) (ev_ret_bl (by decide : ev_bl 1)) rfl
/-- MendBench$Search.endRound(I)Z -/
def jm_145 (Q : Nat) (a0 : Int) (S : ev_St) : Option ((Int) × ev_St) := ev_b (S.1 281 4) fun x1 => ev_ck (x1 + 2) fun x2 => ev_if ((0 : Int) ≤ x2 ∧ x2 < (ev_aln 282 : Int)) (ev_b (S.1 282 (Int.toNat x2)) fun x3 => ev_b (S.2.2.1 281 0) fun r4 => ev_if (r4 ≠ 0) (ev_if ((0 : Int) ≤ a0 ∧ a0 < (ev_aln (((r4 - 1) + 3)) : Int)) (ev_b (S.1 (((r4 - 1) + 3)) (Int.toNat a0)) fun x6 => ev_jn (fun (x7 : Int) (x8 : Int) (s13 : ev_St) => ev_jn (fun  (s18 : ev_St) => ev_b (s18.1 281 4) fun x19 => ev_if ((0 : Int) ≤ x19 ∧ x19 < (ev_aln 282 : Int)) (ev_b (s18.1 282 (Int.toNat x19)) fun x20 => ev_ck (x7 + 1) fun x21 => ev_b (s18.1 281 3) fun x22 => ev_bd (jm_124 Q x20 0 x21 x22 s18) fun x24 s23 => ev_b (ev_pI s23 281 4 x24) fun s25 => ev_bd (jm_143 Q a0 s25) fun x27 s26 => ev_if (ev_bl x27) (some (x27, s26)))) fun K68 => if x8 = 0 then (K68  s13) else (ev_b (s13.1 281 3) fun x30 => ev_b (s13.1 281 4) fun x31 => ev_ck (x31 + 3) fun x32 => ev_if ((0 : Int) ≤ x32 ∧ x32 < (ev_aln 282 : Int)) (ev_b (s13.1 282 (Int.toNat x32)) fun x33 => if x30 ≠ x33 then (K68  s13) else (some (0, s13))))) fun K43 => ev_jn (fun (x35 : Int) (s40 : ev_St) => K43 x35 0 s40) fun K42 => if x6 ≠ (-1) then (K42 x3 S) else (ev_b (S.2.2.1 281 0) fun r42 => ev_if (r42 ≠ 0) (ev_if ((0 : Int) ≤ a0 ∧ a0 < (ev_aln (((r42 - 1) + 2)) : Int)) (ev_b (S.1 (((r42 - 1) + 2)) (Int.toNat a0)) fun x44 => if x3 < x44 then (K42 x3 S) else (K43 x3 1 S)))))))
theorem jt_145 (d : Nat) (hd : 3 ≤ d) (Q : Nat) (a0 : Int) (ha0 : ev_rng a0) (S : ev_St) (x : Int) (S' : ev_St) (hJ : jm_145 Q a0 S = some (x, S')) : ev_Ref d 145 [.ref 281, .int (Int32.ofInt a0)] S (ev_eI x) S' (ev_bl x) := by
  obtain ⟨d, rfl⟩ : ∃ e, d = e + 1 := ⟨d - 1, by omega⟩
  refine ev_ref_of (P := ev_bl) (lv := [(0, .ref 281), (1, .int (Int32.ofInt a0))]) (by decide +kernel) (by (try simp only [ev_sum, ev_nv_cat]); first | done | rfl) (by (try simp only [lv_args, ev_nv_cat]); first | done | rfl) ?_ x S' hJ
  unfold jm_145
  refine ev_r_aload_n (pc := 0) (k := 0) (v := .ref 281) trivial (by decide +kernel) (by rfl) ?_
  refine ev_r_getC (pc := 1) (y := 14) (ci := 8) (f := 6) (fin := 1) (k' := 282) (by decide +kernel) (by decide +kernel) (by exact ev_ob_281) rfl rfl ?_
  refine ev_r_aload_n (pc := 4) (k := 0) (v := .ref 281) trivial (by decide +kernel) (by rfl) ?_
  refine ev_r_getI (pc := 5) (y := 73) (ci := 8) (f := 4) (fin := 0) (by decide +kernel) (by decide +kernel) (by exact ev_ob_281) rfl ?_
  intro x1 hx1
  refine ev_r_iconst (pc := 8) (k := 2) (by decide +kernel) ?_
  refine ev_r_iadd (pc := 9) (by decide +kernel) ?_
  intro x2 hx2
  refine ev_r_iald (pc := 10) hx2 (by decide +kernel) (by exact ev_ab_282) ?_
  intro x3 hx3
  refine ev_r_istore_n (pc := 11) (k := 2) (by decide +kernel) (by decide +kernel) rfl ?_
  refine ev_r_aload_n (pc := 12) (k := 0) (v := .ref 281) trivial (by decide +kernel) (by exact (ev_l1 (by rfl) (by decide) (by decide))) ?_
  refine ev_r_getR (pc := 13) (y := 58) (ci := 8) (f := 0) (fin := 0) (t := 5) (by decide +kernel) (by decide +kernel) (by exact ev_ob_281) rfl rfl ?_
  intro r4 hr4
  have hr4 : r4 = 0 ∨ ev_isOb (r4 - 1) 5 = true := hr4
  refine ev_r_chk ?_
  intro c5
  refine ev_r_dr (r := r4) (fun v => [v]) c5 ?_
  refine ev_r_getC (pc := 16) (y := 187) (ci := 5) (f := 2) (fin := 2) (k' := ((r4 - 1) + 3)) (by decide +kernel) (by decide +kernel) (by exact (hr4.resolve_left c5)) rfl rfl ?_
  refine ev_r_iload_n (pc := 19) (k := 1) (v := Int32.ofInt a0) (by decide +kernel) (by exact (ev_lk_st1 (by rfl) (by decide) rfl)) ?_
  refine ev_r_iald (pc := 20) ha0 (by decide +kernel) (by exact (ev_fo_5_2 (hr4.resolve_left c5))) ?_
  intro x6 hx6
  refine ev_r_iconst (pc := 21) (k := -1) (by decide +kernel) ?_
  refine ev_r_jn (Q := fun K => ∀ (x7 : Int) (hx7 : ev_rng x7), ∀ (x8 : Int) (hx8 : ev_rng x8), ∀ (s13 : ev_St) (w9 : List (Nat × Value)), ev_lk w9 0 = some (.ref 281) → ev_lk w9 1 = some (.int (Int32.ofInt a0)) → ev_lk w9 2 = some (.int (Int32.ofInt x7)) → ev_w none (ev_Mof 145) d 43 w9 [.int (Int32.ofInt x8)] s13 (K x7 x8 s13) ev_eI ev_bl) ?_ ?_
  · intro x7 hx7 x8 hx8 s13 w9 e10 e11 e12
    refine ev_r_istore_n (pc := 43) (k := 3) (by decide +kernel) (by decide +kernel) rfl ?_
    refine ev_r_iload_n (pc := 44) (k := 3) (v := Int32.ofInt x8) (by decide +kernel) (by exact ev_lk_st1_self) ?_
    refine ev_r_jn (Q := fun K => ∀ (s18 : ev_St) (w14 : List (Nat × Value)), ev_lk w14 0 = some (.ref 281) → ev_lk w14 1 = some (.int (Int32.ofInt a0)) → ev_lk w14 2 = some (.int (Int32.ofInt x7)) → ev_w none (ev_Mof 145) d 68 w14 [] s18 (K  s18) ev_eI ev_bl) ?_ ?_
    · intro  s18 w14 e15 e16 e17
      refine ev_r_aload_n (pc := 68) (k := 0) (v := .ref 281) trivial (by decide +kernel) (by exact e15) ?_
      refine ev_r_aload_n (pc := 69) (k := 0) (v := .ref 281) trivial (by decide +kernel) (by exact e15) ?_
      refine ev_r_aload_n (pc := 70) (k := 0) (v := .ref 281) trivial (by decide +kernel) (by exact e15) ?_
      refine ev_r_getC (pc := 71) (y := 14) (ci := 8) (f := 6) (fin := 1) (k' := 282) (by decide +kernel) (by decide +kernel) (by exact ev_ob_281) rfl rfl ?_
      refine ev_r_aload_n (pc := 74) (k := 0) (v := .ref 281) trivial (by decide +kernel) (by exact e15) ?_
      refine ev_r_getI (pc := 75) (y := 73) (ci := 8) (f := 4) (fin := 0) (by decide +kernel) (by decide +kernel) (by exact ev_ob_281) rfl ?_
      intro x19 hx19
      refine ev_r_iald (pc := 78) hx19 (by decide +kernel) (by exact ev_ab_282) ?_
      intro x20 hx20
      refine ev_r_iconst (pc := 79) (k := 0) (by decide +kernel) ?_
      refine ev_r_iload_n (pc := 80) (k := 2) (v := Int32.ofInt x7) (by decide +kernel) (by exact e17) ?_
      refine ev_r_iconst (pc := 81) (k := 1) (by decide +kernel) ?_
      refine ev_r_iadd (pc := 82) (by decide +kernel) ?_
      intro x21 hx21
      refine ev_r_aload_n (pc := 83) (k := 0) (v := .ref 281) trivial (by decide +kernel) (by exact e15) ?_
      refine ev_r_getI (pc := 84) (y := 70) (ci := 8) (f := 3) (fin := 0) (by decide +kernel) (by decide +kernel) (by exact ev_ob_281) rfl ?_
      intro x22 hx22
      refine ev_r_virt (pc := 87) (y := 142) (mi := 124) (na := 4) (k := 281) (as := [.int (Int32.ofInt x20), .int (Int32.ofInt 0), .int (Int32.ofInt x21), .int (Int32.ofInt x22)]) (rest := [.ref 281]) (encc := ev_oI) (Q := ev_rng) (fun x S1 h => jt_124 d (by omega) Q x20 0 x21 x22 hx20 (by decide) hx21 hx22 s18 x S1 h) (by exact ev_ob_281) (by decide +kernel) (by decide +kernel) (by decide +kernel) (by decide +kernel) rfl (by (try simp only [ev_sum, ev_nv_cat]); first | done | rfl) ?_
      intro x24 s23 hx24
      show ev_w _ _ _ _ _ [.int (Int32.ofInt x24), .ref 281] _ _ _ _
      refine ev_r_putI (pc := 90) (y := 73) (ci := 8) (f := 4) hx24 (by decide +kernel) (by decide +kernel) (by exact ev_ob_281) rfl rfl ?_
      intro s25
      refine ev_r_aload_n (pc := 93) (k := 0) (v := .ref 281) trivial (by decide +kernel) (by exact e15) ?_
      refine ev_r_iload_n (pc := 94) (k := 1) (v := Int32.ofInt a0) (by decide +kernel) (by exact e16) ?_
      refine ev_r_virt (pc := 95) (y := 175) (mi := 143) (na := 1) (k := 281) (as := [.int (Int32.ofInt a0)]) (rest := []) (encc := ev_oI) (Q := ev_bl) (fun x S1 h => jt_143 d (by omega) Q a0 ha0 s25 x S1 h) (by exact ev_ob_281) (by decide +kernel) (by decide +kernel) (by decide +kernel) (by decide +kernel) rfl (by (try simp only [ev_sum, ev_nv_cat]); first | done | rfl) ?_
      intro x27 s26 hx27
      replace hx27 := ev_bl_rng hx27
      show ev_w _ _ _ _ _ [.int (Int32.ofInt x27)] _ _ _ _
      refine ev_r_chk ?_
      intro c28
      exact ev_r_ireturn (pc := 98) (x := x27) (v := Int32.ofInt x27) (ty := .boolean) c28 (by decide +kernel) (by decide +kernel) (ev_ret_bl c28) rfl
    · intro K68 hK68
      refine ev_r_if (pc := 45) (q := .eq) (o := 23) (t := 68) (c := x8 = 0) (by decide +kernel) (ev_k_eq hx8 ev_rng0) (by decide +kernel) ?_ ?_
      · intro c29
        exact hK68  s13 _ (by exact (ev_l1 e10 (by decide) (by decide))) (by exact (ev_l1 e11 (by decide) (by decide))) (by exact (ev_lk_st1 e12 (by decide) rfl))
      · intro c29
        refine ev_r_aload_n (pc := 48) (k := 0) (v := .ref 281) trivial (by decide +kernel) (by exact (ev_l1 e10 (by decide) (by decide))) ?_
        refine ev_r_getI (pc := 49) (y := 70) (ci := 8) (f := 3) (fin := 0) (by decide +kernel) (by decide +kernel) (by exact ev_ob_281) rfl ?_
        intro x30 hx30
        refine ev_r_aload_n (pc := 52) (k := 0) (v := .ref 281) trivial (by decide +kernel) (by exact (ev_l1 e10 (by decide) (by decide))) ?_
        refine ev_r_getC (pc := 53) (y := 14) (ci := 8) (f := 6) (fin := 1) (k' := 282) (by decide +kernel) (by decide +kernel) (by exact ev_ob_281) rfl rfl ?_
        refine ev_r_aload_n (pc := 56) (k := 0) (v := .ref 281) trivial (by decide +kernel) (by exact (ev_l1 e10 (by decide) (by decide))) ?_
        refine ev_r_getI (pc := 57) (y := 73) (ci := 8) (f := 4) (fin := 0) (by decide +kernel) (by decide +kernel) (by exact ev_ob_281) rfl ?_
        intro x31 hx31
        refine ev_r_iconst (pc := 60) (k := 3) (by decide +kernel) ?_
        refine ev_r_iadd (pc := 61) (by decide +kernel) ?_
        intro x32 hx32
        refine ev_r_iald (pc := 62) hx32 (by decide +kernel) (by exact ev_ab_282) ?_
        intro x33 hx33
        refine ev_r_icmp (pc := 63) (q := .ne) (o := 5) (t := 68) (c := x30 ≠ x33) (by decide +kernel) (ev_k_ne hx30 hx33) (by decide +kernel) ?_ ?_
        · intro c34
          exact hK68  s13 _ (by exact (ev_l1 e10 (by decide) (by decide))) (by exact (ev_l1 e11 (by decide) (by decide))) (by exact (ev_lk_st1 e12 (by decide) rfl))
        · intro c34
          refine ev_r_iconst (pc := 66) (k := 0) (by decide +kernel) ?_
          exact ev_r_ireturn (pc := 67) (x := 0) (v := Int32.ofInt 0) (ty := .boolean) (by decide : ev_bl 0) (by decide +kernel) (by decide +kernel) (ev_ret_bl (by decide : ev_bl 0)) rfl
  · intro K43 hK43
    refine ev_r_jn (Q := fun K => ∀ (x35 : Int) (hx35 : ev_rng x35), ∀ (s40 : ev_St) (w36 : List (Nat × Value)), ev_lk w36 0 = some (.ref 281) → ev_lk w36 1 = some (.int (Int32.ofInt a0)) → ev_lk w36 2 = some (.int (Int32.ofInt x35)) → ev_w none (ev_Mof 145) d 42 w36 [] s40 (K x35 s40) ev_eI ev_bl) ?_ ?_
    · intro x35 hx35 s40 w36 e37 e38 e39
      refine ev_r_iconst (pc := 42) (k := 0) (by decide +kernel) ?_
      exact hK43 x35 hx35 0 (by decide) s40 _ (by exact e37) (by exact e38) (by exact e39)
    · intro K42 hK42
      refine ev_r_icmp (pc := 22) (q := .ne) (o := 20) (t := 42) (c := x6 ≠ (-1)) (by decide +kernel) (ev_k_ne hx6 (by decide)) (by decide +kernel) ?_ ?_
      · intro c41
        exact hK42 x3 hx3 S _ (by exact (ev_l1 (by rfl) (by decide) (by decide))) (by exact (ev_lk_st1 (by rfl) (by decide) rfl)) (by exact ev_lk_st1_self)
      · intro c41
        refine ev_r_iload_n (pc := 25) (k := 2) (v := Int32.ofInt x3) (by decide +kernel) (by exact ev_lk_st1_self) ?_
        refine ev_r_aload_n (pc := 26) (k := 0) (v := .ref 281) trivial (by decide +kernel) (by exact (ev_l1 (by rfl) (by decide) (by decide))) ?_
        refine ev_r_getR (pc := 27) (y := 58) (ci := 8) (f := 0) (fin := 0) (t := 5) (by decide +kernel) (by decide +kernel) (by exact ev_ob_281) rfl rfl ?_
        intro r42 hr42
        have hr42 : r42 = 0 ∨ ev_isOb (r42 - 1) 5 = true := hr42
        refine ev_r_chk ?_
        intro c43
        refine ev_r_dr (r := r42) (fun v => [v, .int (Int32.ofInt x3)]) c43 ?_
        refine ev_r_getC (pc := 30) (y := 184) (ci := 5) (f := 1) (fin := 2) (k' := ((r42 - 1) + 2)) (by decide +kernel) (by decide +kernel) (by exact (hr42.resolve_left c43)) rfl rfl ?_
        refine ev_r_iload_n (pc := 33) (k := 1) (v := Int32.ofInt a0) (by decide +kernel) (by exact (ev_lk_st1 (by rfl) (by decide) rfl)) ?_
        refine ev_r_iald (pc := 34) ha0 (by decide +kernel) (by exact (ev_fo_5_1 (hr42.resolve_left c43))) ?_
        intro x44 hx44
        refine ev_r_icmp (pc := 35) (q := .lt) (o := 7) (t := 42) (c := x3 < x44) (by decide +kernel) (ev_k_lt hx3 hx44) (by decide +kernel) ?_ ?_
        · intro c45
          exact hK42 x3 hx3 S _ (by exact (ev_l1 (by rfl) (by decide) (by decide))) (by exact (ev_lk_st1 (by rfl) (by decide) rfl)) (by exact ev_lk_st1_self)
        · intro c45
          refine ev_r_iconst (pc := 38) (k := 1) (by decide +kernel) ?_
          refine ev_r_goto (pc := 39) (o := 4) (t := 43) (by decide +kernel) (by decide +kernel) ?_
          exact hK43 x3 hx3 1 (by decide) S _ (by exact (ev_l1 (by rfl) (by decide) (by decide))) (by exact (ev_lk_st1 (by rfl) (by decide) rfl)) (by exact ev_lk_st1_self)
/-- MendBench$Search.endLook(I)Z -/
def jm_142 (Q : Nat) (a0 : Int) (S : ev_St) : Option ((Int) × ev_St) := ev_b (S.2.2.1 281 0) fun r1 => ev_if (r1 ≠ 0) (ev_if ((0 : Int) ≤ a0 ∧ a0 < (ev_aln (((r1 - 1) + 1)) : Int)) (ev_b (S.1 (((r1 - 1) + 1)) (Int.toNat a0)) fun x3 => ev_b (S.1 281 4) fun x4 => ev_ck (x4 + 2) fun x5 => ev_if ((0 : Int) ≤ x5 ∧ x5 < (ev_aln 282 : Int)) (ev_b (S.1 282 (Int.toNat x5)) fun x6 => ev_jn (fun (x7 : Int) (x8 : Int) (s14 : ev_St) => ev_b (s14.1 281 4) fun x15 => ev_ck (x15 + 3) fun x16 => ev_if ((0 : Int) ≤ x16 ∧ x16 < (ev_aln 282 : Int)) (ev_b (s14.1 282 (Int.toNat x16)) fun x17 => ev_b (ev_pI s14 281 9 x17) fun s18 => if x7 = 21 then (some (0, s18)) else (if x7 ≠ 23 then (ev_jn (fun (x21 : Int) (s25 : ev_St) => ev_b (ev_pI s25 281 3 x21) fun s26 => ev_b (s26.1 281 4) fun x27 => ev_if ((0 : Int) ≤ x27 ∧ x27 < (ev_aln 282 : Int)) (ev_b (s26.1 282 (Int.toNat x27)) fun x28 => ev_b (ev_pI s26 281 4 x28) fun s29 => ev_b (s29.2.2.1 281 0) fun r30 => ev_if (r30 ≠ 0) (ev_if ((0 : Int) ≤ a0 ∧ a0 < (ev_aln (((r30 - 1) + 7)) : Int)) (ev_b (s29.1 (((r30 - 1) + 7)) (Int.toNat a0)) fun x32 => ev_b (ev_pI s29 281 2 x32) fun s33 => some (1, s33))))) fun K82 => if x7 ≠ 19 then (K82 x8 s18) else (ev_b (s18.1 281 3) fun x35 => K82 x35 s18)) else (some (0, s18))))) fun K38 => if x3 < 22 then (K38 x3 x6 S) else (ev_b (S.1 281 3) fun x37 => if x37 = x6 then (K38 x3 x6 S) else (some (0, S))))))
theorem jt_142 (d : Nat) (hd : 1 ≤ d) (Q : Nat) (a0 : Int) (ha0 : ev_rng a0) (S : ev_St) (x : Int) (S' : ev_St) (hJ : jm_142 Q a0 S = some (x, S')) : ev_Ref d 142 [.ref 281, .int (Int32.ofInt a0)] S (ev_eI x) S' (ev_bl x) := by
  obtain ⟨d, rfl⟩ : ∃ e, d = e + 1 := ⟨d - 1, by omega⟩
  refine ev_ref_of (P := ev_bl) (lv := [(0, .ref 281), (1, .int (Int32.ofInt a0))]) (by decide +kernel) (by (try simp only [ev_sum, ev_nv_cat]); first | done | rfl) (by (try simp only [lv_args, ev_nv_cat]); first | done | rfl) ?_ x S' hJ
  unfold jm_142
  refine ev_r_aload_n (pc := 0) (k := 0) (v := .ref 281) trivial (by decide +kernel) (by rfl) ?_
  refine ev_r_getR (pc := 1) (y := 58) (ci := 8) (f := 0) (fin := 0) (t := 5) (by decide +kernel) (by decide +kernel) (by exact ev_ob_281) rfl rfl ?_
  intro r1 hr1
  have hr1 : r1 = 0 ∨ ev_isOb (r1 - 1) 5 = true := hr1
  refine ev_r_chk ?_
  intro c2
  refine ev_r_dr (r := r1) (fun v => [v]) c2 ?_
  refine ev_r_getC (pc := 4) (y := 132) (ci := 5) (f := 0) (fin := 2) (k' := ((r1 - 1) + 1)) (by decide +kernel) (by decide +kernel) (by exact (hr1.resolve_left c2)) rfl rfl ?_
  refine ev_r_iload_n (pc := 7) (k := 1) (v := Int32.ofInt a0) (by decide +kernel) (by rfl) ?_
  refine ev_r_iald (pc := 8) ha0 (by decide +kernel) (by exact (ev_fo_5_0 (hr1.resolve_left c2))) ?_
  intro x3 hx3
  refine ev_r_istore_n (pc := 9) (k := 2) (by decide +kernel) (by decide +kernel) rfl ?_
  refine ev_r_aload_n (pc := 10) (k := 0) (v := .ref 281) trivial (by decide +kernel) (by exact (ev_l1 (by rfl) (by decide) (by decide))) ?_
  refine ev_r_getC (pc := 11) (y := 14) (ci := 8) (f := 6) (fin := 1) (k' := 282) (by decide +kernel) (by decide +kernel) (by exact ev_ob_281) rfl rfl ?_
  refine ev_r_aload_n (pc := 14) (k := 0) (v := .ref 281) trivial (by decide +kernel) (by exact (ev_l1 (by rfl) (by decide) (by decide))) ?_
  refine ev_r_getI (pc := 15) (y := 73) (ci := 8) (f := 4) (fin := 0) (by decide +kernel) (by decide +kernel) (by exact ev_ob_281) rfl ?_
  intro x4 hx4
  refine ev_r_iconst (pc := 18) (k := 2) (by decide +kernel) ?_
  refine ev_r_iadd (pc := 19) (by decide +kernel) ?_
  intro x5 hx5
  refine ev_r_iald (pc := 20) hx5 (by decide +kernel) (by exact ev_ab_282) ?_
  intro x6 hx6
  refine ev_r_istore_n (pc := 21) (k := 3) (by decide +kernel) (by decide +kernel) rfl ?_
  refine ev_r_iload_n (pc := 22) (k := 2) (v := Int32.ofInt x3) (by decide +kernel) (by exact (ev_lk_st1 ev_lk_st1_self (by decide) rfl)) ?_
  refine ev_r_bipush (pc := 23) (k := 22) (by decide +kernel) (by decide +kernel) ?_
  refine ev_r_jn (Q := fun K => ∀ (x7 : Int) (hx7 : ev_rng x7), ∀ (x8 : Int) (hx8 : ev_rng x8), ∀ (s14 : ev_St) (w9 : List (Nat × Value)), ev_lk w9 0 = some (.ref 281) → ev_lk w9 1 = some (.int (Int32.ofInt a0)) → ev_lk w9 2 = some (.int (Int32.ofInt x7)) → ev_lk w9 3 = some (.int (Int32.ofInt x8)) → ev_w none (ev_Mof 142) d 38 w9 [] s14 (K x7 x8 s14) ev_eI ev_bl) ?_ ?_
  · intro x7 hx7 x8 hx8 s14 w9 e10 e11 e12 e13
    refine ev_r_aload_n (pc := 38) (k := 0) (v := .ref 281) trivial (by decide +kernel) (by exact e10) ?_
    refine ev_r_aload_n (pc := 39) (k := 0) (v := .ref 281) trivial (by decide +kernel) (by exact e10) ?_
    refine ev_r_getC (pc := 40) (y := 14) (ci := 8) (f := 6) (fin := 1) (k' := 282) (by decide +kernel) (by decide +kernel) (by exact ev_ob_281) rfl rfl ?_
    refine ev_r_aload_n (pc := 43) (k := 0) (v := .ref 281) trivial (by decide +kernel) (by exact e10) ?_
    refine ev_r_getI (pc := 44) (y := 73) (ci := 8) (f := 4) (fin := 0) (by decide +kernel) (by decide +kernel) (by exact ev_ob_281) rfl ?_
    intro x15 hx15
    refine ev_r_iconst (pc := 47) (k := 3) (by decide +kernel) ?_
    refine ev_r_iadd (pc := 48) (by decide +kernel) ?_
    intro x16 hx16
    refine ev_r_iald (pc := 49) hx16 (by decide +kernel) (by exact ev_ab_282) ?_
    intro x17 hx17
    refine ev_r_putI (pc := 50) (y := 82) (ci := 8) (f := 9) hx17 (by decide +kernel) (by decide +kernel) (by exact ev_ob_281) rfl rfl ?_
    intro s18
    refine ev_r_iload_n (pc := 53) (k := 2) (v := Int32.ofInt x7) (by decide +kernel) (by exact e12) ?_
    refine ev_r_bipush (pc := 54) (k := 21) (by decide +kernel) (by decide +kernel) ?_
    refine ev_r_icmp (pc := 56) (q := .eq) (o := 9) (t := 65) (c := x7 = 21) (by decide +kernel) (ev_k_eq hx7 (by decide)) (by decide +kernel) ?_ ?_
    · intro c19
      refine ev_r_iconst (pc := 65) (k := 0) (by decide +kernel) ?_
      exact ev_r_ireturn (pc := 66) (x := 0) (v := Int32.ofInt 0) (ty := .boolean) (by decide : ev_bl 0) (by decide +kernel) (by decide +kernel) (ev_ret_bl (by decide : ev_bl 0)) rfl
    · intro c19
      refine ev_r_iload_n (pc := 59) (k := 2) (v := Int32.ofInt x7) (by decide +kernel) (by exact e12) ?_
      refine ev_r_bipush (pc := 60) (k := 23) (by decide +kernel) (by decide +kernel) ?_
      refine ev_r_icmp (pc := 62) (q := .ne) (o := 5) (t := 67) (c := x7 ≠ 23) (by decide +kernel) (ev_k_ne hx7 (by decide)) (by decide +kernel) ?_ ?_
      · intro c20
        refine ev_r_aload_n (pc := 67) (k := 0) (v := .ref 281) trivial (by decide +kernel) (by exact e10) ?_
        refine ev_r_iload_n (pc := 68) (k := 2) (v := Int32.ofInt x7) (by decide +kernel) (by exact e12) ?_
        refine ev_r_bipush (pc := 69) (k := 19) (by decide +kernel) (by decide +kernel) ?_
        refine ev_r_jn (Q := fun K => ∀ (x21 : Int) (hx21 : ev_rng x21), ∀ (s25 : ev_St) (w22 : List (Nat × Value)), ev_lk w22 0 = some (.ref 281) → ev_lk w22 1 = some (.int (Int32.ofInt a0)) → ev_w none (ev_Mof 142) d 82 w22 [.int (Int32.ofInt x21), .ref 281] s25 (K x21 s25) ev_eI ev_bl) ?_ ?_
        · intro x21 hx21 s25 w22 e23 e24
          refine ev_r_putI (pc := 82) (y := 70) (ci := 8) (f := 3) hx21 (by decide +kernel) (by decide +kernel) (by exact ev_ob_281) rfl rfl ?_
          intro s26
          refine ev_r_aload_n (pc := 85) (k := 0) (v := .ref 281) trivial (by decide +kernel) (by exact e23) ?_
          refine ev_r_aload_n (pc := 86) (k := 0) (v := .ref 281) trivial (by decide +kernel) (by exact e23) ?_
          refine ev_r_getC (pc := 87) (y := 14) (ci := 8) (f := 6) (fin := 1) (k' := 282) (by decide +kernel) (by decide +kernel) (by exact ev_ob_281) rfl rfl ?_
          refine ev_r_aload_n (pc := 90) (k := 0) (v := .ref 281) trivial (by decide +kernel) (by exact e23) ?_
          refine ev_r_getI (pc := 91) (y := 73) (ci := 8) (f := 4) (fin := 0) (by decide +kernel) (by decide +kernel) (by exact ev_ob_281) rfl ?_
          intro x27 hx27
          refine ev_r_iald (pc := 94) hx27 (by decide +kernel) (by exact ev_ab_282) ?_
          intro x28 hx28
          refine ev_r_putI (pc := 95) (y := 73) (ci := 8) (f := 4) hx28 (by decide +kernel) (by decide +kernel) (by exact ev_ob_281) rfl rfl ?_
          intro s29
          refine ev_r_aload_n (pc := 98) (k := 0) (v := .ref 281) trivial (by decide +kernel) (by exact e23) ?_
          refine ev_r_aload_n (pc := 99) (k := 0) (v := .ref 281) trivial (by decide +kernel) (by exact e23) ?_
          refine ev_r_getR (pc := 100) (y := 58) (ci := 8) (f := 0) (fin := 0) (t := 5) (by decide +kernel) (by decide +kernel) (by exact ev_ob_281) rfl rfl ?_
          intro r30 hr30
          have hr30 : r30 = 0 ∨ ev_isOb (r30 - 1) 5 = true := hr30
          refine ev_r_chk ?_
          intro c31
          refine ev_r_dr (r := r30) (fun v => [v, .ref 281]) c31 ?_
          refine ev_r_getC (pc := 103) (y := 139) (ci := 5) (f := 6) (fin := 2) (k' := ((r30 - 1) + 7)) (by decide +kernel) (by decide +kernel) (by exact (hr30.resolve_left c31)) rfl rfl ?_
          refine ev_r_iload_n (pc := 106) (k := 1) (v := Int32.ofInt a0) (by decide +kernel) (by exact e24) ?_
          refine ev_r_iald (pc := 107) ha0 (by decide +kernel) (by exact (ev_fo_5_6 (hr30.resolve_left c31))) ?_
          intro x32 hx32
          refine ev_r_putI (pc := 108) (y := 96) (ci := 8) (f := 2) hx32 (by decide +kernel) (by decide +kernel) (by exact ev_ob_281) rfl rfl ?_
          intro s33
          refine ev_r_iconst (pc := 111) (k := 1) (by decide +kernel) ?_
          exact ev_r_ireturn (pc := 112) (x := 1) (v := Int32.ofInt 1) (ty := .boolean) (by decide : ev_bl 1) (by decide +kernel) (by decide +kernel) (ev_ret_bl (by decide : ev_bl 1)) rfl
        · intro K82 hK82
          refine ev_r_icmp (pc := 71) (q := .ne) (o := 10) (t := 81) (c := x7 ≠ 19) (by decide +kernel) (ev_k_ne hx7 (by decide)) (by decide +kernel) ?_ ?_
          · intro c34
            refine ev_r_iload_n (pc := 81) (k := 3) (v := Int32.ofInt x8) (by decide +kernel) (by exact e13) ?_
            exact hK82 x8 hx8 s18 _ (by exact e10) (by exact e11)
          · intro c34
            refine ev_r_aload_n (pc := 74) (k := 0) (v := .ref 281) trivial (by decide +kernel) (by exact e10) ?_
            refine ev_r_getI (pc := 75) (y := 70) (ci := 8) (f := 3) (fin := 0) (by decide +kernel) (by decide +kernel) (by exact ev_ob_281) rfl ?_
            intro x35 hx35
            refine ev_r_goto (pc := 78) (o := 4) (t := 82) (by decide +kernel) (by decide +kernel) ?_
            exact hK82 x35 hx35 s18 _ (by exact e10) (by exact e11)
      · intro c20
        refine ev_r_iconst (pc := 65) (k := 0) (by decide +kernel) ?_
        exact ev_r_ireturn (pc := 66) (x := 0) (v := Int32.ofInt 0) (ty := .boolean) (by decide : ev_bl 0) (by decide +kernel) (by decide +kernel) (ev_ret_bl (by decide : ev_bl 0)) rfl
  · intro K38 hK38
    refine ev_r_icmp (pc := 25) (q := .lt) (o := 13) (t := 38) (c := x3 < 22) (by decide +kernel) (ev_k_lt hx3 (by decide)) (by decide +kernel) ?_ ?_
    · intro c36
      exact hK38 x3 hx3 x6 hx6 S _ (by exact (ev_l1 (ev_l1 (by rfl) (by decide) (by decide)) (by decide) (by decide))) (by exact (ev_l1 (ev_lk_st1 (by rfl) (by decide) rfl) (by decide) (by decide))) (by exact (ev_lk_st1 ev_lk_st1_self (by decide) rfl)) (by exact ev_lk_st1_self)
    · intro c36
      refine ev_r_aload_n (pc := 28) (k := 0) (v := .ref 281) trivial (by decide +kernel) (by exact (ev_l1 (ev_l1 (by rfl) (by decide) (by decide)) (by decide) (by decide))) ?_
      refine ev_r_getI (pc := 29) (y := 70) (ci := 8) (f := 3) (fin := 0) (by decide +kernel) (by decide +kernel) (by exact ev_ob_281) rfl ?_
      intro x37 hx37
      refine ev_r_iload_n (pc := 32) (k := 3) (v := Int32.ofInt x6) (by decide +kernel) (by exact ev_lk_st1_self) ?_
      refine ev_r_icmp (pc := 33) (q := .eq) (o := 5) (t := 38) (c := x37 = x6) (by decide +kernel) (ev_k_eq hx37 hx6) (by decide +kernel) ?_ ?_
      · intro c38
        exact hK38 x3 hx3 x6 hx6 S _ (by exact (ev_l1 (ev_l1 (by rfl) (by decide) (by decide)) (by decide) (by decide))) (by exact (ev_l1 (ev_lk_st1 (by rfl) (by decide) rfl) (by decide) (by decide))) (by exact (ev_lk_st1 ev_lk_st1_self (by decide) rfl)) (by exact ev_lk_st1_self)
      · intro c38
        refine ev_r_iconst (pc := 36) (k := 0) (by decide +kernel) ?_
        exact ev_r_ireturn (pc := 37) (x := 0) (v := Int32.ofInt 0) (ty := .boolean) (by decide : ev_bl 0) (by decide +kernel) (by decide +kernel) (ev_ret_bl (by decide : ev_bl 0)) rfl
/-- MendBench$Search.leave(I)Z -/
def jm_141 (Q : Nat) (a0 : Int) (S : ev_St) : Option ((Int) × ev_St) := ev_b (S.2.2.1 281 0) fun r1 => ev_if (r1 ≠ 0) (ev_if ((0 : Int) ≤ a0 ∧ a0 < (ev_aln (((r1 - 1) + 1)) : Int)) (ev_b (S.1 (((r1 - 1) + 1)) (Int.toNat a0)) fun x3 => ev_jn (fun  (s7 : ev_St) => ev_b (s7.2.2.1 281 0) fun r8 => ev_if (r8 ≠ 0) (ev_if ((0 : Int) ≤ a0 ∧ a0 < (ev_aln (((r8 - 1) + 7)) : Int)) (ev_b (s7.1 (((r8 - 1) + 7)) (Int.toNat a0)) fun x10 => ev_b (ev_pI s7 281 2 x10) fun s11 => some (1, s11)))) fun K22 => if x3 = 17 then (K22  S) else (if x3 ≠ 8 then (ev_b (S.1 281 4) fun x14 => ev_bd (jm_126 Q x14 S) fun x16 s15 => if x16 ≠ 0 then (ev_jn (fun  (s21 : ev_St) => ev_bd (jm_145 Q a0 s21) fun x23 s22 => ev_if (ev_bl x23) (some (x23, s22))) fun K62 => if x3 = 13 then (K62  s15) else (if x3 ≠ 14 then (if x3 < 19 then (ev_b (s15.1 281 4) fun x28 => ev_ck (x28 + 1) fun x29 => ev_if ((0 : Int) ≤ x29 ∧ x29 < (ev_aln 282 : Int)) (ev_b (s15.1 282 (Int.toNat x29)) fun x30 => ev_b (ev_iand x30 7) fun x31 => ev_jn (fun  (s34 : ev_St) => ev_b (s34.1 281 4) fun x35 => ev_if ((0 : Int) ≤ x35 ∧ x35 < (ev_aln 282 : Int)) (ev_b (s34.1 282 (Int.toNat x35)) fun x36 => ev_b (ev_pI s34 281 4 x36) fun s37 => some (1, s37))) fun K180 => if x31 ≠ 2 then (ev_b (s15.1 281 5) fun x39 => ev_b (s15.2.2.1 281 0) fun r40 => ev_if (r40 ≠ 0) (ev_if ((0 : Int) ≤ a0 ∧ a0 < (ev_aln (((r40 - 1) + 2)) : Int)) (ev_b (s15.1 (((r40 - 1) + 2)) (Int.toNat a0)) fun x42 => ev_b (s15.1 281 4) fun x43 => ev_ck (x43 + 2) fun x44 => ev_if ((0 : Int) ≤ x44 ∧ x44 < (ev_aln 282 : Int)) (ev_b (s15.1 282 (Int.toNat x44)) fun x45 => ev_b (s15.1 281 3) fun x46 => ev_bd (jm_125 Q x39 x42 x45 x46 s15) fun x48 s47 => ev_b (ev_pI s47 281 5 x48) fun s49 => ev_b (s49.2.2.1 281 0) fun r50 => ev_if (r50 ≠ 0) (ev_if ((0 : Int) ≤ a0 ∧ a0 < (ev_aln (((r50 - 1) + 7)) : Int)) (ev_b (s49.1 (((r50 - 1) + 7)) (Int.toNat a0)) fun x52 => ev_b (ev_pI s49 281 2 x52) fun s53 => K180  s53)))))) else (ev_b (s15.1 281 4) fun x54 => ev_ck (x54 + 2) fun x55 => ev_if ((0 : Int) ≤ x55 ∧ x55 < (ev_aln 282 : Int)) (ev_b (s15.1 282 (Int.toNat x55)) fun x56 => ev_b (ev_pI s15 281 2 x56) fun s57 => ev_b (s57.1 281 4) fun x58 => ev_ck (x58 + 3) fun x59 => ev_if ((0 : Int) ≤ x59 ∧ x59 < (ev_aln 282 : Int)) (ev_b (s57.1 282 (Int.toNat x59)) fun x60 => ev_b (ev_pI s57 281 5 x60) fun s61 => K180  s61))))) else (ev_bd (jm_142 Q a0 s15) fun x63 s62 => ev_if (ev_bl x63) (some (x63, s62)))) else (K62  s15))) else (some (0, s15))) else (K22  S))))
theorem jt_141 (d : Nat) (hd : 4 ≤ d) (Q : Nat) (a0 : Int) (ha0 : ev_rng a0) (S : ev_St) (x : Int) (S' : ev_St) (hJ : jm_141 Q a0 S = some (x, S')) : ev_Ref d 141 [.ref 281, .int (Int32.ofInt a0)] S (ev_eI x) S' (ev_bl x) := by
  obtain ⟨d, rfl⟩ : ∃ e, d = e + 1 := ⟨d - 1, by omega⟩
  refine ev_ref_of (P := ev_bl) (lv := [(0, .ref 281), (1, .int (Int32.ofInt a0))]) (by decide +kernel) (by (try simp only [ev_sum, ev_nv_cat]); first | done | rfl) (by (try simp only [lv_args, ev_nv_cat]); first | done | rfl) ?_ x S' hJ
  unfold jm_141
  refine ev_r_aload_n (pc := 0) (k := 0) (v := .ref 281) trivial (by decide +kernel) (by rfl) ?_
  refine ev_r_getR (pc := 1) (y := 58) (ci := 8) (f := 0) (fin := 0) (t := 5) (by decide +kernel) (by decide +kernel) (by exact ev_ob_281) rfl rfl ?_
  intro r1 hr1
  have hr1 : r1 = 0 ∨ ev_isOb (r1 - 1) 5 = true := hr1
  refine ev_r_chk ?_
  intro c2
  refine ev_r_dr (r := r1) (fun v => [v]) c2 ?_
  refine ev_r_getC (pc := 4) (y := 132) (ci := 5) (f := 0) (fin := 2) (k' := ((r1 - 1) + 1)) (by decide +kernel) (by decide +kernel) (by exact (hr1.resolve_left c2)) rfl rfl ?_
  refine ev_r_iload_n (pc := 7) (k := 1) (v := Int32.ofInt a0) (by decide +kernel) (by rfl) ?_
  refine ev_r_iald (pc := 8) ha0 (by decide +kernel) (by exact (ev_fo_5_0 (hr1.resolve_left c2))) ?_
  intro x3 hx3
  refine ev_r_istore_n (pc := 9) (k := 2) (by decide +kernel) (by decide +kernel) rfl ?_
  refine ev_r_iload_n (pc := 10) (k := 2) (v := Int32.ofInt x3) (by decide +kernel) (by exact ev_lk_st1_self) ?_
  refine ev_r_bipush (pc := 11) (k := 17) (by decide +kernel) (by decide +kernel) ?_
  refine ev_r_jn (Q := fun K => ∀ (s7 : ev_St) (w4 : List (Nat × Value)), ev_lk w4 0 = some (.ref 281) → ev_lk w4 1 = some (.int (Int32.ofInt a0)) → ev_w none (ev_Mof 141) d 22 w4 [] s7 (K  s7) ev_eI ev_bl) ?_ ?_
  · intro  s7 w4 e5 e6
    refine ev_r_aload_n (pc := 22) (k := 0) (v := .ref 281) trivial (by decide +kernel) (by exact e5) ?_
    refine ev_r_aload_n (pc := 23) (k := 0) (v := .ref 281) trivial (by decide +kernel) (by exact e5) ?_
    refine ev_r_getR (pc := 24) (y := 58) (ci := 8) (f := 0) (fin := 0) (t := 5) (by decide +kernel) (by decide +kernel) (by exact ev_ob_281) rfl rfl ?_
    intro r8 hr8
    have hr8 : r8 = 0 ∨ ev_isOb (r8 - 1) 5 = true := hr8
    refine ev_r_chk ?_
    intro c9
    refine ev_r_dr (r := r8) (fun v => [v, .ref 281]) c9 ?_
    refine ev_r_getC (pc := 27) (y := 139) (ci := 5) (f := 6) (fin := 2) (k' := ((r8 - 1) + 7)) (by decide +kernel) (by decide +kernel) (by exact (hr8.resolve_left c9)) rfl rfl ?_
    refine ev_r_iload_n (pc := 30) (k := 1) (v := Int32.ofInt a0) (by decide +kernel) (by exact e6) ?_
    refine ev_r_iald (pc := 31) ha0 (by decide +kernel) (by exact (ev_fo_5_6 (hr8.resolve_left c9))) ?_
    intro x10 hx10
    refine ev_r_putI (pc := 32) (y := 96) (ci := 8) (f := 2) hx10 (by decide +kernel) (by decide +kernel) (by exact ev_ob_281) rfl rfl ?_
    intro s11
    refine ev_r_iconst (pc := 35) (k := 1) (by decide +kernel) ?_
    exact ev_r_ireturn (pc := 36) (x := 1) (v := Int32.ofInt 1) (ty := .boolean) (by decide : ev_bl 1) (by decide +kernel) (by decide +kernel) (ev_ret_bl (by decide : ev_bl 1)) rfl
  · intro K22 hK22
    refine ev_r_icmp (pc := 13) (q := .eq) (o := 9) (t := 22) (c := x3 = 17) (by decide +kernel) (ev_k_eq hx3 (by decide)) (by decide +kernel) ?_ ?_
    · intro c12
      exact hK22  S _ (by exact (ev_l1 (by rfl) (by decide) (by decide))) (by exact (ev_lk_st1 (by rfl) (by decide) rfl))
    · intro c12
      refine ev_r_iload_n (pc := 16) (k := 2) (v := Int32.ofInt x3) (by decide +kernel) (by exact ev_lk_st1_self) ?_
      refine ev_r_bipush (pc := 17) (k := 8) (by decide +kernel) (by decide +kernel) ?_
      refine ev_r_icmp (pc := 19) (q := .ne) (o := 18) (t := 37) (c := x3 ≠ 8) (by decide +kernel) (ev_k_ne hx3 (by decide)) (by decide +kernel) ?_ ?_
      · intro c13
        refine ev_r_aload_n (pc := 37) (k := 0) (v := .ref 281) trivial (by decide +kernel) (by exact (ev_l1 (by rfl) (by decide) (by decide))) ?_
        refine ev_r_aload_n (pc := 38) (k := 0) (v := .ref 281) trivial (by decide +kernel) (by exact (ev_l1 (by rfl) (by decide) (by decide))) ?_
        refine ev_r_getI (pc := 39) (y := 73) (ci := 8) (f := 4) (fin := 0) (by decide +kernel) (by decide +kernel) (by exact ev_ob_281) rfl ?_
        intro x14 hx14
        refine ev_r_virt (pc := 42) (y := 112) (mi := 126) (na := 1) (k := 281) (as := [.int (Int32.ofInt x14)]) (rest := []) (encc := ev_oI) (Q := ev_bl) (fun x S1 h => jt_126 d (by omega) Q x14 hx14 S x S1 h) (by exact ev_ob_281) (by decide +kernel) (by decide +kernel) (by decide +kernel) (by decide +kernel) rfl (by (try simp only [ev_sum, ev_nv_cat]); first | done | rfl) ?_
        intro x16 s15 hx16
        replace hx16 := ev_bl_rng hx16
        show ev_w _ _ _ _ _ [.int (Int32.ofInt x16)] _ _ _ _
        refine ev_r_if (pc := 45) (q := .ne) (o := 5) (t := 50) (c := x16 ≠ 0) (by decide +kernel) (ev_k_ne hx16 ev_rng0) (by decide +kernel) ?_ ?_
        · intro c17
          refine ev_r_iload_n (pc := 50) (k := 2) (v := Int32.ofInt x3) (by decide +kernel) (by exact ev_lk_st1_self) ?_
          refine ev_r_bipush (pc := 51) (k := 13) (by decide +kernel) (by decide +kernel) ?_
          refine ev_r_jn (Q := fun K => ∀ (s21 : ev_St) (w18 : List (Nat × Value)), ev_lk w18 0 = some (.ref 281) → ev_lk w18 1 = some (.int (Int32.ofInt a0)) → ev_w none (ev_Mof 141) d 62 w18 [] s21 (K  s21) ev_eI ev_bl) ?_ ?_
          · intro  s21 w18 e19 e20
            refine ev_r_aload_n (pc := 62) (k := 0) (v := .ref 281) trivial (by decide +kernel) (by exact e19) ?_
            refine ev_r_iload_n (pc := 63) (k := 1) (v := Int32.ofInt a0) (by decide +kernel) (by exact e20) ?_
            refine ev_r_virt (pc := 64) (y := 205) (mi := 145) (na := 1) (k := 281) (as := [.int (Int32.ofInt a0)]) (rest := []) (encc := ev_oI) (Q := ev_bl) (fun x S1 h => jt_145 d (by omega) Q a0 ha0 s21 x S1 h) (by exact ev_ob_281) (by decide +kernel) (by decide +kernel) (by decide +kernel) (by decide +kernel) rfl (by (try simp only [ev_sum, ev_nv_cat]); first | done | rfl) ?_
            intro x23 s22 hx23
            replace hx23 := ev_bl_rng hx23
            show ev_w _ _ _ _ _ [.int (Int32.ofInt x23)] _ _ _ _
            refine ev_r_chk ?_
            intro c24
            exact ev_r_ireturn (pc := 67) (x := x23) (v := Int32.ofInt x23) (ty := .boolean) c24 (by decide +kernel) (by decide +kernel) (ev_ret_bl c24) rfl
          · intro K62 hK62
            refine ev_r_icmp (pc := 53) (q := .eq) (o := 9) (t := 62) (c := x3 = 13) (by decide +kernel) (ev_k_eq hx3 (by decide)) (by decide +kernel) ?_ ?_
            · intro c25
              exact hK62  s15 _ (by exact (ev_l1 (by rfl) (by decide) (by decide))) (by exact (ev_lk_st1 (by rfl) (by decide) rfl))
            · intro c25
              refine ev_r_iload_n (pc := 56) (k := 2) (v := Int32.ofInt x3) (by decide +kernel) (by exact ev_lk_st1_self) ?_
              refine ev_r_bipush (pc := 57) (k := 14) (by decide +kernel) (by decide +kernel) ?_
              refine ev_r_icmp (pc := 59) (q := .ne) (o := 9) (t := 68) (c := x3 ≠ 14) (by decide +kernel) (ev_k_ne hx3 (by decide)) (by decide +kernel) ?_ ?_
              · intro c26
                refine ev_r_iload_n (pc := 68) (k := 2) (v := Int32.ofInt x3) (by decide +kernel) (by exact ev_lk_st1_self) ?_
                refine ev_r_bipush (pc := 69) (k := 19) (by decide +kernel) (by decide +kernel) ?_
                refine ev_r_icmp (pc := 71) (q := .lt) (o := 9) (t := 80) (c := x3 < 19) (by decide +kernel) (ev_k_lt hx3 (by decide)) (by decide +kernel) ?_ ?_
                · intro c27
                  refine ev_r_aload_n (pc := 80) (k := 0) (v := .ref 281) trivial (by decide +kernel) (by exact (ev_l1 (by rfl) (by decide) (by decide))) ?_
                  refine ev_r_getC (pc := 81) (y := 14) (ci := 8) (f := 6) (fin := 1) (k' := 282) (by decide +kernel) (by decide +kernel) (by exact ev_ob_281) rfl rfl ?_
                  refine ev_r_aload_n (pc := 84) (k := 0) (v := .ref 281) trivial (by decide +kernel) (by exact (ev_l1 (by rfl) (by decide) (by decide))) ?_
                  refine ev_r_getI (pc := 85) (y := 73) (ci := 8) (f := 4) (fin := 0) (by decide +kernel) (by decide +kernel) (by exact ev_ob_281) rfl ?_
                  intro x28 hx28
                  refine ev_r_iconst (pc := 88) (k := 1) (by decide +kernel) ?_
                  refine ev_r_iadd (pc := 89) (by decide +kernel) ?_
                  intro x29 hx29
                  refine ev_r_iald (pc := 90) hx29 (by decide +kernel) (by exact ev_ab_282) ?_
                  intro x30 hx30
                  refine ev_r_bipush (pc := 91) (k := 7) (by decide +kernel) (by decide +kernel) ?_
                  refine ev_r_iand (pc := 93) (by decide +kernel) ?_
                  intro x31 hx31
                  refine ev_r_iconst (pc := 94) (k := 2) (by decide +kernel) ?_
                  refine ev_r_jn (Q := fun K => ∀ (s34 : ev_St) (w32 : List (Nat × Value)), ev_lk w32 0 = some (.ref 281) → ev_w none (ev_Mof 141) d 180 w32 [] s34 (K  s34) ev_eI ev_bl) ?_ ?_
                  · intro  s34 w32 e33
                    refine ev_r_aload_n (pc := 180) (k := 0) (v := .ref 281) trivial (by decide +kernel) (by exact e33) ?_
                    refine ev_r_aload_n (pc := 181) (k := 0) (v := .ref 281) trivial (by decide +kernel) (by exact e33) ?_
                    refine ev_r_getC (pc := 182) (y := 14) (ci := 8) (f := 6) (fin := 1) (k' := 282) (by decide +kernel) (by decide +kernel) (by exact ev_ob_281) rfl rfl ?_
                    refine ev_r_aload_n (pc := 185) (k := 0) (v := .ref 281) trivial (by decide +kernel) (by exact e33) ?_
                    refine ev_r_getI (pc := 186) (y := 73) (ci := 8) (f := 4) (fin := 0) (by decide +kernel) (by decide +kernel) (by exact ev_ob_281) rfl ?_
                    intro x35 hx35
                    refine ev_r_iald (pc := 189) hx35 (by decide +kernel) (by exact ev_ab_282) ?_
                    intro x36 hx36
                    refine ev_r_putI (pc := 190) (y := 73) (ci := 8) (f := 4) hx36 (by decide +kernel) (by decide +kernel) (by exact ev_ob_281) rfl rfl ?_
                    intro s37
                    refine ev_r_iconst (pc := 193) (k := 1) (by decide +kernel) ?_
                    exact ev_r_ireturn (pc := 194) (x := 1) (v := Int32.ofInt 1) (ty := .boolean) (by decide : ev_bl 1) (by decide +kernel) (by decide +kernel) (ev_ret_bl (by decide : ev_bl 1)) rfl
                  · intro K180 hK180
                    refine ev_r_icmp (pc := 95) (q := .ne) (o := 36) (t := 131) (c := x31 ≠ 2) (by decide +kernel) (ev_k_ne hx31 (by decide)) (by decide +kernel) ?_ ?_
                    · intro c38
                      refine ev_r_aload_n (pc := 131) (k := 0) (v := .ref 281) trivial (by decide +kernel) (by exact (ev_l1 (by rfl) (by decide) (by decide))) ?_
                      refine ev_r_aload_n (pc := 132) (k := 0) (v := .ref 281) trivial (by decide +kernel) (by exact (ev_l1 (by rfl) (by decide) (by decide))) ?_
                      refine ev_r_aload_n (pc := 133) (k := 0) (v := .ref 281) trivial (by decide +kernel) (by exact (ev_l1 (by rfl) (by decide) (by decide))) ?_
                      refine ev_r_getI (pc := 134) (y := 76) (ci := 8) (f := 5) (fin := 0) (by decide +kernel) (by decide +kernel) (by exact ev_ob_281) rfl ?_
                      intro x39 hx39
                      refine ev_r_aload_n (pc := 137) (k := 0) (v := .ref 281) trivial (by decide +kernel) (by exact (ev_l1 (by rfl) (by decide) (by decide))) ?_
                      refine ev_r_getR (pc := 138) (y := 58) (ci := 8) (f := 0) (fin := 0) (t := 5) (by decide +kernel) (by decide +kernel) (by exact ev_ob_281) rfl rfl ?_
                      intro r40 hr40
                      have hr40 : r40 = 0 ∨ ev_isOb (r40 - 1) 5 = true := hr40
                      refine ev_r_chk ?_
                      intro c41
                      refine ev_r_dr (r := r40) (fun v => [v, .int (Int32.ofInt x39), .ref 281, .ref 281]) c41 ?_
                      refine ev_r_getC (pc := 141) (y := 184) (ci := 5) (f := 1) (fin := 2) (k' := ((r40 - 1) + 2)) (by decide +kernel) (by decide +kernel) (by exact (hr40.resolve_left c41)) rfl rfl ?_
                      refine ev_r_iload_n (pc := 144) (k := 1) (v := Int32.ofInt a0) (by decide +kernel) (by exact (ev_lk_st1 (by rfl) (by decide) rfl)) ?_
                      refine ev_r_iald (pc := 145) ha0 (by decide +kernel) (by exact (ev_fo_5_1 (hr40.resolve_left c41))) ?_
                      intro x42 hx42
                      refine ev_r_aload_n (pc := 146) (k := 0) (v := .ref 281) trivial (by decide +kernel) (by exact (ev_l1 (by rfl) (by decide) (by decide))) ?_
                      refine ev_r_getC (pc := 147) (y := 14) (ci := 8) (f := 6) (fin := 1) (k' := 282) (by decide +kernel) (by decide +kernel) (by exact ev_ob_281) rfl rfl ?_
                      refine ev_r_aload_n (pc := 150) (k := 0) (v := .ref 281) trivial (by decide +kernel) (by exact (ev_l1 (by rfl) (by decide) (by decide))) ?_
                      refine ev_r_getI (pc := 151) (y := 73) (ci := 8) (f := 4) (fin := 0) (by decide +kernel) (by decide +kernel) (by exact ev_ob_281) rfl ?_
                      intro x43 hx43
                      refine ev_r_iconst (pc := 154) (k := 2) (by decide +kernel) ?_
                      refine ev_r_iadd (pc := 155) (by decide +kernel) ?_
                      intro x44 hx44
                      refine ev_r_iald (pc := 156) hx44 (by decide +kernel) (by exact ev_ab_282) ?_
                      intro x45 hx45
                      refine ev_r_aload_n (pc := 157) (k := 0) (v := .ref 281) trivial (by decide +kernel) (by exact (ev_l1 (by rfl) (by decide) (by decide))) ?_
                      refine ev_r_getI (pc := 158) (y := 70) (ci := 8) (f := 3) (fin := 0) (by decide +kernel) (by decide +kernel) (by exact ev_ob_281) rfl ?_
                      intro x46 hx46
                      refine ev_r_virt (pc := 161) (y := 115) (mi := 125) (na := 4) (k := 281) (as := [.int (Int32.ofInt x39), .int (Int32.ofInt x42), .int (Int32.ofInt x45), .int (Int32.ofInt x46)]) (rest := [.ref 281]) (encc := ev_oI) (Q := ev_rng) (fun x S1 h => jt_125 d (by omega) Q x39 x42 x45 x46 hx39 hx42 hx45 hx46 s15 x S1 h) (by exact ev_ob_281) (by decide +kernel) (by decide +kernel) (by decide +kernel) (by decide +kernel) rfl (by (try simp only [ev_sum, ev_nv_cat]); first | done | rfl) ?_
                      intro x48 s47 hx48
                      show ev_w _ _ _ _ _ [.int (Int32.ofInt x48), .ref 281] _ _ _ _
                      refine ev_r_putI (pc := 164) (y := 76) (ci := 8) (f := 5) hx48 (by decide +kernel) (by decide +kernel) (by exact ev_ob_281) rfl rfl ?_
                      intro s49
                      refine ev_r_aload_n (pc := 167) (k := 0) (v := .ref 281) trivial (by decide +kernel) (by exact (ev_l1 (by rfl) (by decide) (by decide))) ?_
                      refine ev_r_aload_n (pc := 168) (k := 0) (v := .ref 281) trivial (by decide +kernel) (by exact (ev_l1 (by rfl) (by decide) (by decide))) ?_
                      refine ev_r_getR (pc := 169) (y := 58) (ci := 8) (f := 0) (fin := 0) (t := 5) (by decide +kernel) (by decide +kernel) (by exact ev_ob_281) rfl rfl ?_
                      intro r50 hr50
                      have hr50 : r50 = 0 ∨ ev_isOb (r50 - 1) 5 = true := hr50
                      refine ev_r_chk ?_
                      intro c51
                      refine ev_r_dr (r := r50) (fun v => [v, .ref 281]) c51 ?_
                      refine ev_r_getC (pc := 172) (y := 139) (ci := 5) (f := 6) (fin := 2) (k' := ((r50 - 1) + 7)) (by decide +kernel) (by decide +kernel) (by exact (hr50.resolve_left c51)) rfl rfl ?_
                      refine ev_r_iload_n (pc := 175) (k := 1) (v := Int32.ofInt a0) (by decide +kernel) (by exact (ev_lk_st1 (by rfl) (by decide) rfl)) ?_
                      refine ev_r_iald (pc := 176) ha0 (by decide +kernel) (by exact (ev_fo_5_6 (hr50.resolve_left c51))) ?_
                      intro x52 hx52
                      refine ev_r_putI (pc := 177) (y := 96) (ci := 8) (f := 2) hx52 (by decide +kernel) (by decide +kernel) (by exact ev_ob_281) rfl rfl ?_
                      intro s53
                      exact hK180  s53 _ (by exact (ev_l1 (by rfl) (by decide) (by decide)))
                    · intro c38
                      refine ev_r_aload_n (pc := 98) (k := 0) (v := .ref 281) trivial (by decide +kernel) (by exact (ev_l1 (by rfl) (by decide) (by decide))) ?_
                      refine ev_r_aload_n (pc := 99) (k := 0) (v := .ref 281) trivial (by decide +kernel) (by exact (ev_l1 (by rfl) (by decide) (by decide))) ?_
                      refine ev_r_getC (pc := 100) (y := 14) (ci := 8) (f := 6) (fin := 1) (k' := 282) (by decide +kernel) (by decide +kernel) (by exact ev_ob_281) rfl rfl ?_
                      refine ev_r_aload_n (pc := 103) (k := 0) (v := .ref 281) trivial (by decide +kernel) (by exact (ev_l1 (by rfl) (by decide) (by decide))) ?_
                      refine ev_r_getI (pc := 104) (y := 73) (ci := 8) (f := 4) (fin := 0) (by decide +kernel) (by decide +kernel) (by exact ev_ob_281) rfl ?_
                      intro x54 hx54
                      refine ev_r_iconst (pc := 107) (k := 2) (by decide +kernel) ?_
                      refine ev_r_iadd (pc := 108) (by decide +kernel) ?_
                      intro x55 hx55
                      refine ev_r_iald (pc := 109) hx55 (by decide +kernel) (by exact ev_ab_282) ?_
                      intro x56 hx56
                      refine ev_r_putI (pc := 110) (y := 96) (ci := 8) (f := 2) hx56 (by decide +kernel) (by decide +kernel) (by exact ev_ob_281) rfl rfl ?_
                      intro s57
                      refine ev_r_aload_n (pc := 113) (k := 0) (v := .ref 281) trivial (by decide +kernel) (by exact (ev_l1 (by rfl) (by decide) (by decide))) ?_
                      refine ev_r_aload_n (pc := 114) (k := 0) (v := .ref 281) trivial (by decide +kernel) (by exact (ev_l1 (by rfl) (by decide) (by decide))) ?_
                      refine ev_r_getC (pc := 115) (y := 14) (ci := 8) (f := 6) (fin := 1) (k' := 282) (by decide +kernel) (by decide +kernel) (by exact ev_ob_281) rfl rfl ?_
                      refine ev_r_aload_n (pc := 118) (k := 0) (v := .ref 281) trivial (by decide +kernel) (by exact (ev_l1 (by rfl) (by decide) (by decide))) ?_
                      refine ev_r_getI (pc := 119) (y := 73) (ci := 8) (f := 4) (fin := 0) (by decide +kernel) (by decide +kernel) (by exact ev_ob_281) rfl ?_
                      intro x58 hx58
                      refine ev_r_iconst (pc := 122) (k := 3) (by decide +kernel) ?_
                      refine ev_r_iadd (pc := 123) (by decide +kernel) ?_
                      intro x59 hx59
                      refine ev_r_iald (pc := 124) hx59 (by decide +kernel) (by exact ev_ab_282) ?_
                      intro x60 hx60
                      refine ev_r_putI (pc := 125) (y := 76) (ci := 8) (f := 5) hx60 (by decide +kernel) (by decide +kernel) (by exact ev_ob_281) rfl rfl ?_
                      intro s61
                      refine ev_r_goto (pc := 128) (o := 52) (t := 180) (by decide +kernel) (by decide +kernel) ?_
                      exact hK180  s61 _ (by exact (ev_l1 (by rfl) (by decide) (by decide)))
                · intro c27
                  refine ev_r_aload_n (pc := 74) (k := 0) (v := .ref 281) trivial (by decide +kernel) (by exact (ev_l1 (by rfl) (by decide) (by decide))) ?_
                  refine ev_r_iload_n (pc := 75) (k := 1) (v := Int32.ofInt a0) (by decide +kernel) (by exact (ev_lk_st1 (by rfl) (by decide) rfl)) ?_
                  refine ev_r_virt (pc := 76) (y := 208) (mi := 142) (na := 1) (k := 281) (as := [.int (Int32.ofInt a0)]) (rest := []) (encc := ev_oI) (Q := ev_bl) (fun x S1 h => jt_142 d (by omega) Q a0 ha0 s15 x S1 h) (by exact ev_ob_281) (by decide +kernel) (by decide +kernel) (by decide +kernel) (by decide +kernel) rfl (by (try simp only [ev_sum, ev_nv_cat]); first | done | rfl) ?_
                  intro x63 s62 hx63
                  replace hx63 := ev_bl_rng hx63
                  show ev_w _ _ _ _ _ [.int (Int32.ofInt x63)] _ _ _ _
                  refine ev_r_chk ?_
                  intro c64
                  exact ev_r_ireturn (pc := 79) (x := x63) (v := Int32.ofInt x63) (ty := .boolean) c64 (by decide +kernel) (by decide +kernel) (ev_ret_bl c64) rfl
              · intro c26
                exact hK62  s15 _ (by exact (ev_l1 (by rfl) (by decide) (by decide))) (by exact (ev_lk_st1 (by rfl) (by decide) rfl))
        · intro c17
          refine ev_r_iconst (pc := 48) (k := 0) (by decide +kernel) ?_
          exact ev_r_ireturn (pc := 49) (x := 0) (v := Int32.ofInt 0) (ty := .boolean) (by decide : ev_bl 0) (by decide +kernel) (by decide +kernel) (ev_ret_bl (by decide : ev_bl 0)) rfl
      · intro c13
        exact hK22  S _ (by exact (ev_l1 (by rfl) (by decide) (by decide))) (by exact (ev_lk_st1 (by rfl) (by decide) rfl))
/-- MendBench$Search.beginRound(I)Z -/
def jm_144 (Q : Nat) (a0 : Int) (S : ev_St) : Option ((Int) × ev_St) := ev_b (S.2.2.1 281 0) fun r1 => ev_if (r1 ≠ 0) (ev_if ((0 : Int) ≤ a0 ∧ a0 < (ev_aln (((r1 - 1) + 4)) : Int)) (ev_b (S.1 (((r1 - 1) + 4)) (Int.toNat a0)) fun x3 => ev_ck (4 * x3) fun x4 => ev_ck (x4 + 0) fun x5 => ev_b (ev_pI S 281 2 x5) fun s6 => ev_bd (jm_123 Q  s6) fun x8 s7 => ev_if (ev_bl x8) (some (x8, s7))))
theorem jt_144 (d : Nat) (hd : 2 ≤ d) (Q : Nat) (a0 : Int) (ha0 : ev_rng a0) (S : ev_St) (x : Int) (S' : ev_St) (hJ : jm_144 Q a0 S = some (x, S')) : ev_Ref d 144 [.ref 281, .int (Int32.ofInt a0)] S (ev_eI x) S' (ev_bl x) := by
  obtain ⟨d, rfl⟩ : ∃ e, d = e + 1 := ⟨d - 1, by omega⟩
  refine ev_ref_of (P := ev_bl) (lv := [(0, .ref 281), (1, .int (Int32.ofInt a0))]) (by decide +kernel) (by (try simp only [ev_sum, ev_nv_cat]); first | done | rfl) (by (try simp only [lv_args, ev_nv_cat]); first | done | rfl) ?_ x S' hJ
  unfold jm_144
  refine ev_r_aload_n (pc := 0) (k := 0) (v := .ref 281) trivial (by decide +kernel) (by rfl) ?_
  refine ev_r_iconst (pc := 1) (k := 4) (by decide +kernel) ?_
  refine ev_r_aload_n (pc := 2) (k := 0) (v := .ref 281) trivial (by decide +kernel) (by rfl) ?_
  refine ev_r_getR (pc := 3) (y := 58) (ci := 8) (f := 0) (fin := 0) (t := 5) (by decide +kernel) (by decide +kernel) (by exact ev_ob_281) rfl rfl ?_
  intro r1 hr1
  have hr1 : r1 = 0 ∨ ev_isOb (r1 - 1) 5 = true := hr1
  refine ev_r_chk ?_
  intro c2
  refine ev_r_dr (r := r1) (fun v => [v, .int (Int32.ofInt 4), .ref 281]) c2 ?_
  refine ev_r_getC (pc := 6) (y := 193) (ci := 5) (f := 3) (fin := 2) (k' := ((r1 - 1) + 4)) (by decide +kernel) (by decide +kernel) (by exact (hr1.resolve_left c2)) rfl rfl ?_
  refine ev_r_iload_n (pc := 9) (k := 1) (v := Int32.ofInt a0) (by decide +kernel) (by rfl) ?_
  refine ev_r_iald (pc := 10) ha0 (by decide +kernel) (by exact (ev_fo_5_3 (hr1.resolve_left c2))) ?_
  intro x3 hx3
  refine ev_r_imul (pc := 11) (by decide +kernel) ?_
  intro x4 hx4
  refine ev_r_iconst (pc := 12) (k := 0) (by decide +kernel) ?_
  refine ev_r_iadd (pc := 13) (by decide +kernel) ?_
  intro x5 hx5
  refine ev_r_putI (pc := 14) (y := 96) (ci := 8) (f := 2) hx5 (by decide +kernel) (by decide +kernel) (by exact ev_ob_281) rfl rfl ?_
  intro s6
  refine ev_r_aload_n (pc := 17) (k := 0) (v := .ref 281) trivial (by decide +kernel) (by rfl) ?_
  refine ev_r_virt (pc := 18) (y := 135) (mi := 123) (na := 0) (k := 281) (as := []) (rest := []) (encc := ev_oI) (Q := ev_bl) (fun x S1 h => jt_123 d (by omega) Q   s6 x S1 h) (by exact ev_ob_281) (by decide +kernel) (by decide +kernel) (by decide +kernel) (by decide +kernel) rfl (by (try simp only [ev_sum, ev_nv_cat]); first | done | rfl) ?_
  intro x8 s7 hx8
  replace hx8 := ev_bl_rng hx8
  show ev_w _ _ _ _ _ [.int (Int32.ofInt x8)] _ _ _ _
  refine ev_r_chk ?_
  intro c9
  exact ev_r_ireturn (pc := 21) (x := x8) (v := Int32.ofInt x8) (ty := .boolean) c9 (by decide +kernel) (by decide +kernel) (ev_ret_bl c9) rfl
def jb_122_74 (Q : Nat)   (K74 : Int → Int → ev_St → Option ((Int) × ev_St)) (x20 : Int) (x21 : Int) (s26 : ev_St) : Option ((Int) × ev_St) := if 100000000 ≤ x21 then (ev_b (ev_pI s26 281 10 1) fun s28 => some (2, s28)) else (ev_jn (fun  (s32 : ev_St) => ev_b (s32.1 281 2) fun x33 => ev_b (ev_ishr x33 2) fun x34 => ev_b (s32.1 281 2) fun x35 => ev_b (ev_iand x35 3) fun x36 => ev_b (s32.2.2.1 281 0) fun r37 => ev_if (r37 ≠ 0) (ev_bd (jm_59 Q ((r37 - 1)) x34 s32) fun x40 s39 => if x40 ≠ 0 then (ev_jn (fun  (s47 : ev_St) => ev_jn (fun (x48 : Int) (s52 : ev_St) => ev_b (s52.1 281 10) fun x53 => if x53 = 0 then (ev_ck (x21 + 1) fun x55 => K74 x48 x55 s52) else (some (2, s52))) fun K198 => if x36 ≠ 0 then (if x36 ≠ 1 then (ev_bd (jm_144 Q x34 s47) fun x59 s58 => K198 x59 s58) else (ev_bd (jm_141 Q x34 s47) fun x61 s60 => K198 x61 s60)) else (ev_bd (jm_136 Q x34 s47) fun x63 s62 => K198 x63 s62)) fun K163 => if x36 ≠ 1 then (K163  s39) else (ev_b (s39.2.2.1 281 0) fun r65 => ev_if (r65 ≠ 0) (ev_bd (jm_60 Q ((r65 - 1)) s39) fun x68 s67 => if x34 ≠ x68 then (K163  s67) else (ev_b (s67.1 281 4) fun x70 => if 0 ≤ x70 then (K163  s67) else (ev_b (s67.1 281 3) fun x72 => ev_b (ev_pI s67 281 12 x72) fun s73 => some (1, s73)))))) else (some (2, s39)))) fun K98 => if x20 ≠ 0 then (K98  s26) else (ev_bd (jm_131 Q  s26) fun x76 s75 => if x76 = 0 then (K98  s75) else (some (x76, s75))))
def jl_122_74 (Q : Nat)   : Nat → Int → Int → ev_St → Option ((Int) × ev_St)
  | 0 => fun _ _ _ => none
  | q + 1 => jb_122_74 Q   (jl_122_74 Q   q)
theorem jbt_122_74 (d : Nat) (hd : 5 ≤ d + 1) (Q : Nat)     (K74 : Int → Int → ev_St → Option ((Int) × ev_St)) (hK74 : ∀ (x20 : Int) (hx20 : ev_rng x20), ∀ (x21 : Int) (hx21 : ev_rng x21), ∀ (s26 : ev_St) (w22 : List (Nat × Value)), ev_lk w22 0 = some (.ref 281) → ev_lk w22 2 = some (.int (Int32.ofInt x20)) → ev_lk w22 3 = some (.int (Int32.ofInt x21)) → ev_w none (ev_Mof 122) d 74 w22 [] s26 (K74 x20 x21 s26) ev_eI ev_rng) : ∀ (x20 : Int) (hx20 : ev_rng x20), ∀ (x21 : Int) (hx21 : ev_rng x21), ∀ (s26 : ev_St) (w22 : List (Nat × Value)), ev_lk w22 0 = some (.ref 281) → ev_lk w22 2 = some (.int (Int32.ofInt x20)) → ev_lk w22 3 = some (.int (Int32.ofInt x21)) → ev_w none (ev_Mof 122) d 74 w22 [] s26 (jb_122_74 Q   K74 x20 x21 s26) ev_eI ev_rng := by
  intro x20 hx20 x21 hx21 s26 w22 e23 e24 e25
  unfold jb_122_74
  refine ev_r_iload_n (pc := 74) (k := 3) (v := Int32.ofInt x21) (by decide +kernel) (by exact e25) ?_
  refine ev_r_ldc (pc := 75) (y := 99) (k := 100000000) (by decide +kernel) (by decide +kernel) ?_
  refine ev_r_icmp (pc := 77) (q := .ge) (o := 137) (t := 214) (c := 100000000 ≤ x21) (by decide +kernel) (ev_k_ge hx21 (by decide)) (by decide +kernel) ?_ ?_
  · intro c27
    refine ev_r_aload_n (pc := 214) (k := 0) (v := .ref 281) trivial (by decide +kernel) (by exact e23) ?_
    refine ev_r_iconst (pc := 215) (k := 1) (by decide +kernel) ?_
    refine ev_r_putI (pc := 216) (y := 39) (ci := 8) (f := 10) (by decide) (by decide +kernel) (by decide +kernel) (by exact ev_ob_281) rfl (ev_fit_bl (by decide : ev_bl 1)) ?_
    intro s28
    refine ev_r_iconst (pc := 219) (k := 2) (by decide +kernel) ?_
    exact ev_r_ireturn (pc := 220) (x := 2) (v := Int32.ofInt 2) (ty := .int) (by decide) (by decide +kernel) (by decide +kernel) rfl rfl
  · intro c27
    refine ev_r_iload_n (pc := 80) (k := 2) (v := Int32.ofInt x20) (by decide +kernel) (by exact e24) ?_
    refine ev_r_jn (Q := fun K => ∀ (s32 : ev_St) (w29 : List (Nat × Value)), ev_lk w29 0 = some (.ref 281) → ev_lk w29 3 = some (.int (Int32.ofInt x21)) → ev_w none (ev_Mof 122) d 98 w29 [] s32 (K  s32) ev_eI ev_rng) ?_ ?_
    · intro  s32 w29 e30 e31
      refine ev_r_aload_n (pc := 98) (k := 0) (v := .ref 281) trivial (by decide +kernel) (by exact e30) ?_
      refine ev_r_getI (pc := 99) (y := 96) (ci := 8) (f := 2) (fin := 0) (by decide +kernel) (by decide +kernel) (by exact ev_ob_281) rfl ?_
      intro x33 hx33
      refine ev_r_iconst (pc := 102) (k := 2) (by decide +kernel) ?_
      refine ev_r_ishr (pc := 103) (by decide +kernel) ?_
      intro x34 hx34
      refine ev_r_istore (pc := 104) (k := 4) (by decide +kernel) (by decide +kernel) rfl ?_
      refine ev_r_aload_n (pc := 106) (k := 0) (v := .ref 281) trivial (by decide +kernel) (by exact (ev_l1 e30 (by decide) (by decide))) ?_
      refine ev_r_getI (pc := 107) (y := 96) (ci := 8) (f := 2) (fin := 0) (by decide +kernel) (by decide +kernel) (by exact ev_ob_281) rfl ?_
      intro x35 hx35
      refine ev_r_iconst (pc := 110) (k := 3) (by decide +kernel) ?_
      refine ev_r_iand (pc := 111) (by decide +kernel) ?_
      intro x36 hx36
      refine ev_r_istore (pc := 112) (k := 5) (by decide +kernel) (by decide +kernel) rfl ?_
      refine ev_r_aload_n (pc := 114) (k := 0) (v := .ref 281) trivial (by decide +kernel) (by exact (ev_l1 (ev_l1 e30 (by decide) (by decide)) (by decide) (by decide))) ?_
      refine ev_r_getR (pc := 115) (y := 58) (ci := 8) (f := 0) (fin := 0) (t := 5) (by decide +kernel) (by decide +kernel) (by exact ev_ob_281) rfl rfl ?_
      intro r37 hr37
      have hr37 : r37 = 0 ∨ ev_isOb (r37 - 1) 5 = true := hr37
      refine ev_r_iload (pc := 118) (k := 4) (v := Int32.ofInt x34) (by decide +kernel) (by exact (ev_lk_st1 ev_lk_st1_self (by decide) rfl)) ?_
      refine ev_r_chk ?_
      intro c38
      refine ev_r_dr (r := r37) (fun v => [.int (Int32.ofInt x34), v]) c38 ?_
      refine ev_r_virt (pc := 120) (y := 89) (mi := 59) (na := 1) (k := (r37 - 1)) (as := [.int (Int32.ofInt x34)]) (rest := []) (encc := ev_oI) (Q := ev_bl) (fun x S1 h => jt_59 d (by omega) Q ((r37 - 1)) x34 (hr37.resolve_left c38) hx34 s32 x S1 h) (by exact (hr37.resolve_left c38)) (by decide +kernel) (by decide +kernel) (by decide +kernel) (by decide +kernel) rfl (by (try simp only [ev_sum, ev_nv_cat]); first | done | rfl) ?_
      intro x40 s39 hx40
      replace hx40 := ev_bl_rng hx40
      show ev_w _ _ _ _ _ [.int (Int32.ofInt x40)] _ _ _ _
      refine ev_r_if (pc := 123) (q := .ne) (o := 5) (t := 128) (c := x40 ≠ 0) (by decide +kernel) (ev_k_ne hx40 ev_rng0) (by decide +kernel) ?_ ?_
      · intro c41
        refine ev_r_iload (pc := 128) (k := 5) (v := Int32.ofInt x36) (by decide +kernel) (by exact ev_lk_st1_self) ?_
        refine ev_r_iconst (pc := 130) (k := 1) (by decide +kernel) ?_
        refine ev_r_jn (Q := fun K => ∀ (s47 : ev_St) (w42 : List (Nat × Value)), ev_lk w42 0 = some (.ref 281) → ev_lk w42 3 = some (.int (Int32.ofInt x21)) → ev_lk w42 4 = some (.int (Int32.ofInt x34)) → ev_lk w42 5 = some (.int (Int32.ofInt x36)) → ev_w none (ev_Mof 122) d 163 w42 [] s47 (K  s47) ev_eI ev_rng) ?_ ?_
        · intro  s47 w42 e43 e44 e45 e46
          refine ev_r_iload (pc := 163) (k := 5) (v := Int32.ofInt x36) (by decide +kernel) (by exact e46) ?_
          refine ev_r_jn (Q := fun K => ∀ (x48 : Int) (hx48 : ev_rng x48), ∀ (s52 : ev_St) (w49 : List (Nat × Value)), ev_lk w49 0 = some (.ref 281) → ev_lk w49 3 = some (.int (Int32.ofInt x21)) → ev_w none (ev_Mof 122) d 198 w49 [.int (Int32.ofInt x48)] s52 (K x48 s52) ev_eI ev_rng) ?_ ?_
          · intro x48 hx48 s52 w49 e50 e51
            refine ev_r_istore_n (pc := 198) (k := 2) (by decide +kernel) (by decide +kernel) rfl ?_
            refine ev_r_aload_n (pc := 199) (k := 0) (v := .ref 281) trivial (by decide +kernel) (by exact (ev_l1 e50 (by decide) (by decide))) ?_
            refine ev_r_getI (pc := 200) (y := 39) (ci := 8) (f := 10) (fin := 0) (by decide +kernel) (by decide +kernel) (by exact ev_ob_281) rfl ?_
            intro x53 hx53
            refine ev_r_if (pc := 203) (q := .eq) (o := 5) (t := 208) (c := x53 = 0) (by decide +kernel) (ev_k_eq hx53 ev_rng0) (by decide +kernel) ?_ ?_
            · intro c54
              refine ev_r_iinc (pc := 208) (k := 3) (c := 1) (x := x21) (by decide +kernel) (by decide +kernel) (by exact (ev_l1 e51 (by decide) (by decide))) (fun _ => rfl) ?_
              intro x55 hx55
              refine ev_r_goto (pc := 211) (o := (-137)) (t := 74) (by decide +kernel) (by decide +kernel) ?_
              exact hK74 x48 hx48 x55 hx55 s52 _ (by exact (ev_l1 (ev_l1 e50 (by decide) (by decide)) (by decide) (by decide))) (by exact (ev_lk_st1 ev_lk_st1_self (by decide) rfl)) (by exact ev_lk_st1_self)
            · intro c54
              refine ev_r_iconst (pc := 206) (k := 2) (by decide +kernel) ?_
              exact ev_r_ireturn (pc := 207) (x := 2) (v := Int32.ofInt 2) (ty := .int) (by decide) (by decide +kernel) (by decide +kernel) rfl rfl
          · intro K198 hK198
            refine ev_r_if (pc := 165) (q := .ne) (o := 12) (t := 177) (c := x36 ≠ 0) (by decide +kernel) (ev_k_ne hx36 ev_rng0) (by decide +kernel) ?_ ?_
            · intro c56
              refine ev_r_iload (pc := 177) (k := 5) (v := Int32.ofInt x36) (by decide +kernel) (by exact e46) ?_
              refine ev_r_iconst (pc := 179) (k := 1) (by decide +kernel) ?_
              refine ev_r_icmp (pc := 180) (q := .ne) (o := 12) (t := 192) (c := x36 ≠ 1) (by decide +kernel) (ev_k_ne hx36 (by decide)) (by decide +kernel) ?_ ?_
              · intro c57
                refine ev_r_aload_n (pc := 192) (k := 0) (v := .ref 281) trivial (by decide +kernel) (by exact e43) ?_
                refine ev_r_iload (pc := 193) (k := 4) (v := Int32.ofInt x34) (by decide +kernel) (by exact e45) ?_
                refine ev_r_virt (pc := 195) (y := 109) (mi := 144) (na := 1) (k := 281) (as := [.int (Int32.ofInt x34)]) (rest := []) (encc := ev_oI) (Q := ev_bl) (fun x S1 h => jt_144 d (by omega) Q x34 hx34 s47 x S1 h) (by exact ev_ob_281) (by decide +kernel) (by decide +kernel) (by decide +kernel) (by decide +kernel) rfl (by (try simp only [ev_sum, ev_nv_cat]); first | done | rfl) ?_
                intro x59 s58 hx59
                replace hx59 := ev_bl_rng hx59
                show ev_w _ _ _ _ _ [.int (Int32.ofInt x59)] _ _ _ _
                exact hK198 x59 hx59 s58 _ (by exact e43) (by exact e44)
              · intro c57
                refine ev_r_aload_n (pc := 183) (k := 0) (v := .ref 281) trivial (by decide +kernel) (by exact e43) ?_
                refine ev_r_iload (pc := 184) (k := 4) (v := Int32.ofInt x34) (by decide +kernel) (by exact e45) ?_
                refine ev_r_virt (pc := 186) (y := 106) (mi := 141) (na := 1) (k := 281) (as := [.int (Int32.ofInt x34)]) (rest := []) (encc := ev_oI) (Q := ev_bl) (fun x S1 h => jt_141 d (by omega) Q x34 hx34 s47 x S1 h) (by exact ev_ob_281) (by decide +kernel) (by decide +kernel) (by decide +kernel) (by decide +kernel) rfl (by (try simp only [ev_sum, ev_nv_cat]); first | done | rfl) ?_
                intro x61 s60 hx61
                replace hx61 := ev_bl_rng hx61
                show ev_w _ _ _ _ _ [.int (Int32.ofInt x61)] _ _ _ _
                refine ev_r_goto (pc := 189) (o := 9) (t := 198) (by decide +kernel) (by decide +kernel) ?_
                exact hK198 x61 hx61 s60 _ (by exact e43) (by exact e44)
            · intro c56
              refine ev_r_aload_n (pc := 168) (k := 0) (v := .ref 281) trivial (by decide +kernel) (by exact e43) ?_
              refine ev_r_iload (pc := 169) (k := 4) (v := Int32.ofInt x34) (by decide +kernel) (by exact e45) ?_
              refine ev_r_virt (pc := 171) (y := 103) (mi := 136) (na := 1) (k := 281) (as := [.int (Int32.ofInt x34)]) (rest := []) (encc := ev_oI) (Q := ev_bl) (fun x S1 h => jt_136 d (by omega) Q x34 hx34 s47 x S1 h) (by exact ev_ob_281) (by decide +kernel) (by decide +kernel) (by decide +kernel) (by decide +kernel) rfl (by (try simp only [ev_sum, ev_nv_cat]); first | done | rfl) ?_
              intro x63 s62 hx63
              replace hx63 := ev_bl_rng hx63
              show ev_w _ _ _ _ _ [.int (Int32.ofInt x63)] _ _ _ _
              refine ev_r_goto (pc := 174) (o := 24) (t := 198) (by decide +kernel) (by decide +kernel) ?_
              exact hK198 x63 hx63 s62 _ (by exact e43) (by exact e44)
        · intro K163 hK163
          refine ev_r_icmp (pc := 131) (q := .ne) (o := 32) (t := 163) (c := x36 ≠ 1) (by decide +kernel) (ev_k_ne hx36 (by decide)) (by decide +kernel) ?_ ?_
          · intro c64
            exact hK163  s39 _ (by exact (ev_l1 (ev_l1 e30 (by decide) (by decide)) (by decide) (by decide))) (by exact (ev_l1 (ev_lk_st1 e31 (by decide) rfl) (by decide) (by decide))) (by exact (ev_lk_st1 ev_lk_st1_self (by decide) rfl)) (by exact ev_lk_st1_self)
          · intro c64
            refine ev_r_iload (pc := 134) (k := 4) (v := Int32.ofInt x34) (by decide +kernel) (by exact (ev_lk_st1 ev_lk_st1_self (by decide) rfl)) ?_
            refine ev_r_aload_n (pc := 136) (k := 0) (v := .ref 281) trivial (by decide +kernel) (by exact (ev_l1 (ev_l1 e30 (by decide) (by decide)) (by decide) (by decide))) ?_
            refine ev_r_getR (pc := 137) (y := 58) (ci := 8) (f := 0) (fin := 0) (t := 5) (by decide +kernel) (by decide +kernel) (by exact ev_ob_281) rfl rfl ?_
            intro r65 hr65
            have hr65 : r65 = 0 ∨ ev_isOb (r65 - 1) 5 = true := hr65
            refine ev_r_chk ?_
            intro c66
            refine ev_r_dr (r := r65) (fun v => [v, .int (Int32.ofInt x34)]) c66 ?_
            refine ev_r_virt (pc := 140) (y := 85) (mi := 60) (na := 0) (k := (r65 - 1)) (as := []) (rest := [.int (Int32.ofInt x34)]) (encc := ev_oI) (Q := ev_rng) (fun x S1 h => jt_60 d (by omega) Q ((r65 - 1)) (hr65.resolve_left c66) s39 x S1 h) (by exact (hr65.resolve_left c66)) (by decide +kernel) (by decide +kernel) (by decide +kernel) (by decide +kernel) rfl (by (try simp only [ev_sum, ev_nv_cat]); first | done | rfl) ?_
            intro x68 s67 hx68
            show ev_w _ _ _ _ _ [.int (Int32.ofInt x68), .int (Int32.ofInt x34)] _ _ _ _
            refine ev_r_icmp (pc := 143) (q := .ne) (o := 20) (t := 163) (c := x34 ≠ x68) (by decide +kernel) (ev_k_ne hx34 hx68) (by decide +kernel) ?_ ?_
            · intro c69
              exact hK163  s67 _ (by exact (ev_l1 (ev_l1 e30 (by decide) (by decide)) (by decide) (by decide))) (by exact (ev_l1 (ev_lk_st1 e31 (by decide) rfl) (by decide) (by decide))) (by exact (ev_lk_st1 ev_lk_st1_self (by decide) rfl)) (by exact ev_lk_st1_self)
            · intro c69
              refine ev_r_aload_n (pc := 146) (k := 0) (v := .ref 281) trivial (by decide +kernel) (by exact (ev_l1 (ev_l1 e30 (by decide) (by decide)) (by decide) (by decide))) ?_
              refine ev_r_getI (pc := 147) (y := 73) (ci := 8) (f := 4) (fin := 0) (by decide +kernel) (by decide +kernel) (by exact ev_ob_281) rfl ?_
              intro x70 hx70
              refine ev_r_if (pc := 150) (q := .ge) (o := 13) (t := 163) (c := 0 ≤ x70) (by decide +kernel) (ev_k_ge hx70 ev_rng0) (by decide +kernel) ?_ ?_
              · intro c71
                exact hK163  s67 _ (by exact (ev_l1 (ev_l1 e30 (by decide) (by decide)) (by decide) (by decide))) (by exact (ev_l1 (ev_lk_st1 e31 (by decide) rfl) (by decide) (by decide))) (by exact (ev_lk_st1 ev_lk_st1_self (by decide) rfl)) (by exact ev_lk_st1_self)
              · intro c71
                refine ev_r_aload_n (pc := 153) (k := 0) (v := .ref 281) trivial (by decide +kernel) (by exact (ev_l1 (ev_l1 e30 (by decide) (by decide)) (by decide) (by decide))) ?_
                refine ev_r_aload_n (pc := 154) (k := 0) (v := .ref 281) trivial (by decide +kernel) (by exact (ev_l1 (ev_l1 e30 (by decide) (by decide)) (by decide) (by decide))) ?_
                refine ev_r_getI (pc := 155) (y := 70) (ci := 8) (f := 3) (fin := 0) (by decide +kernel) (by decide +kernel) (by exact ev_ob_281) rfl ?_
                intro x72 hx72
                refine ev_r_putI (pc := 158) (y := 46) (ci := 8) (f := 12) hx72 (by decide +kernel) (by decide +kernel) (by exact ev_ob_281) rfl rfl ?_
                intro s73
                refine ev_r_iconst (pc := 161) (k := 1) (by decide +kernel) ?_
                exact ev_r_ireturn (pc := 162) (x := 1) (v := Int32.ofInt 1) (ty := .int) (by decide) (by decide +kernel) (by decide +kernel) rfl rfl
      · intro c41
        refine ev_r_iconst (pc := 126) (k := 2) (by decide +kernel) ?_
        exact ev_r_ireturn (pc := 127) (x := 2) (v := Int32.ofInt 2) (ty := .int) (by decide) (by decide +kernel) (by decide +kernel) rfl rfl
    · intro K98 hK98
      refine ev_r_if (pc := 81) (q := .ne) (o := 17) (t := 98) (c := x20 ≠ 0) (by decide +kernel) (ev_k_ne hx20 ev_rng0) (by decide +kernel) ?_ ?_
      · intro c74
        exact hK98  s26 _ (by exact e23) (by exact e25)
      · intro c74
        refine ev_r_aload_n (pc := 84) (k := 0) (v := .ref 281) trivial (by decide +kernel) (by exact e23) ?_
        refine ev_r_virt (pc := 85) (y := 100) (mi := 131) (na := 0) (k := 281) (as := []) (rest := []) (encc := ev_oI) (Q := ev_rng) (fun x S1 h => jt_131 d (by omega) Q   s26 x S1 h) (by exact ev_ob_281) (by decide +kernel) (by decide +kernel) (by decide +kernel) (by decide +kernel) rfl (by (try simp only [ev_sum, ev_nv_cat]); first | done | rfl) ?_
        intro x76 s75 hx76
        show ev_w _ _ _ _ _ [.int (Int32.ofInt x76)] _ _ _ _
        refine ev_r_istore (pc := 88) (k := 4) (by decide +kernel) (by decide +kernel) rfl ?_
        refine ev_r_iload (pc := 90) (k := 4) (v := Int32.ofInt x76) (by decide +kernel) (by exact ev_lk_st1_self) ?_
        refine ev_r_if (pc := 92) (q := .eq) (o := 6) (t := 98) (c := x76 = 0) (by decide +kernel) (ev_k_eq hx76 ev_rng0) (by decide +kernel) ?_ ?_
        · intro c77
          exact hK98  s75 _ (by exact (ev_l1 e23 (by decide) (by decide))) (by exact (ev_lk_st1 e25 (by decide) rfl))
        · intro c77
          refine ev_r_iload (pc := 95) (k := 4) (v := Int32.ofInt x76) (by decide +kernel) (by exact ev_lk_st1_self) ?_
          exact ev_r_ireturn (pc := 97) (x := x76) (v := Int32.ofInt x76) (ty := .int) hx76 (by decide +kernel) (by decide +kernel) rfl rfl
theorem jlt_122_74 (d : Nat) (hd : 5 ≤ d + 1) (Q : Nat)     : ∀ q : Nat, ∀ (x20 : Int) (hx20 : ev_rng x20), ∀ (x21 : Int) (hx21 : ev_rng x21), ∀ (s26 : ev_St) (w22 : List (Nat × Value)), ev_lk w22 0 = some (.ref 281) → ev_lk w22 2 = some (.int (Int32.ofInt x20)) → ev_lk w22 3 = some (.int (Int32.ofInt x21)) → ev_w none (ev_Mof 122) d 74 w22 [] s26 (jl_122_74 Q   q x20 x21 s26) ev_eI ev_rng := by
  intro q
  induction q with
  | zero =>
    intro x20 hx20 x21 hx21 s26 w22 e23 e24 e25
    exact ev_w_none
  | succ q ih => exact jbt_122_74 d hd Q     _ ih
/-- MendBench$Search.run(I)I -/
def jm_122 (Q : Nat) (a0 : Int) (S : ev_St) : Option ((Int) × ev_St) := ev_b (ev_pI S 281 11 a0) fun s1 => ev_b (ev_pI s1 281 3 a0) fun s2 => ev_b (ev_pI s2 281 4 ((-1))) fun s3 => ev_b (ev_pI s3 281 5 ((-1))) fun s4 => ev_b (ev_pI s4 281 7 0) fun s5 => ev_b (ev_pI s5 281 9 0) fun s6 => ev_b (s6.2.2.1 281 0) fun r7 => ev_b (s6.2.2.1 281 0) fun r8 => ev_if (r8 ≠ 0) (ev_bd (jm_60 Q ((r8 - 1)) s6) fun x11 s10 => ev_if (r7 ≠ 0) (ev_bd (jm_59 Q ((r7 - 1)) x11 s10) fun x14 s13 => ev_jn (fun (x15 : Int) (s18 : ev_St) => ev_b (ev_pI s18 281 2 x15) fun s19 => jl_122_74 Q   Q 1 0 s19) fun K67 => if x14 = 0 then (K67 ((-1)) s13) else (ev_b (s13.2.2.1 281 0) fun r79 => ev_if (r79 ≠ 0) (ev_b (s13.2.2.1 281 0) fun r81 => ev_if (r81 ≠ 0) (ev_bd (jm_60 Q ((r81 - 1)) s13) fun x84 s83 => ev_if ((0 : Int) ≤ x84 ∧ x84 < (ev_aln (((r79 - 1) + 6)) : Int)) (ev_b (s83.1 (((r79 - 1) + 6)) (Int.toNat x84)) fun x85 => K67 x85 s83))))))
theorem jt_122 (d : Nat) (hd : 5 ≤ d) (Q : Nat) (a0 : Int) (ha0 : ev_rng a0) (S : ev_St) (x : Int) (S' : ev_St) (hJ : jm_122 Q a0 S = some (x, S')) : ev_Ref d 122 [.ref 281, .int (Int32.ofInt a0)] S (ev_eI x) S' (ev_rng x) := by
  obtain ⟨d, rfl⟩ : ∃ e, d = e + 1 := ⟨d - 1, by omega⟩
  refine ev_ref_of (P := ev_rng) (lv := [(0, .ref 281), (1, .int (Int32.ofInt a0))]) (by decide +kernel) (by (try simp only [ev_sum, ev_nv_cat]); first | done | rfl) (by (try simp only [lv_args, ev_nv_cat]); first | done | rfl) ?_ x S' hJ
  unfold jm_122
  refine ev_r_aload_n (pc := 0) (k := 0) (v := .ref 281) trivial (by decide +kernel) (by rfl) ?_
  refine ev_r_iload_n (pc := 1) (k := 1) (v := Int32.ofInt a0) (by decide +kernel) (by rfl) ?_
  refine ev_r_putI (pc := 2) (y := 43) (ci := 8) (f := 11) ha0 (by decide +kernel) (by decide +kernel) (by exact ev_ob_281) rfl rfl ?_
  intro s1
  refine ev_r_aload_n (pc := 5) (k := 0) (v := .ref 281) trivial (by decide +kernel) (by rfl) ?_
  refine ev_r_iload_n (pc := 6) (k := 1) (v := Int32.ofInt a0) (by decide +kernel) (by rfl) ?_
  refine ev_r_putI (pc := 7) (y := 70) (ci := 8) (f := 3) ha0 (by decide +kernel) (by decide +kernel) (by exact ev_ob_281) rfl rfl ?_
  intro s2
  refine ev_r_aload_n (pc := 10) (k := 0) (v := .ref 281) trivial (by decide +kernel) (by rfl) ?_
  refine ev_r_iconst (pc := 11) (k := -1) (by decide +kernel) ?_
  refine ev_r_putI (pc := 12) (y := 73) (ci := 8) (f := 4) (by decide) (by decide +kernel) (by decide +kernel) (by exact ev_ob_281) rfl rfl ?_
  intro s3
  refine ev_r_aload_n (pc := 15) (k := 0) (v := .ref 281) trivial (by decide +kernel) (by rfl) ?_
  refine ev_r_iconst (pc := 16) (k := -1) (by decide +kernel) ?_
  refine ev_r_putI (pc := 17) (y := 76) (ci := 8) (f := 5) (by decide) (by decide +kernel) (by decide +kernel) (by exact ev_ob_281) rfl rfl ?_
  intro s4
  refine ev_r_aload_n (pc := 20) (k := 0) (v := .ref 281) trivial (by decide +kernel) (by rfl) ?_
  refine ev_r_iconst (pc := 21) (k := 0) (by decide +kernel) ?_
  refine ev_r_putI (pc := 22) (y := 79) (ci := 8) (f := 7) (by decide) (by decide +kernel) (by decide +kernel) (by exact ev_ob_281) rfl rfl ?_
  intro s5
  refine ev_r_aload_n (pc := 25) (k := 0) (v := .ref 281) trivial (by decide +kernel) (by rfl) ?_
  refine ev_r_iconst (pc := 26) (k := 0) (by decide +kernel) ?_
  refine ev_r_putI (pc := 27) (y := 82) (ci := 8) (f := 9) (by decide) (by decide +kernel) (by decide +kernel) (by exact ev_ob_281) rfl rfl ?_
  intro s6
  refine ev_r_aload_n (pc := 30) (k := 0) (v := .ref 281) trivial (by decide +kernel) (by rfl) ?_
  refine ev_r_aload_n (pc := 31) (k := 0) (v := .ref 281) trivial (by decide +kernel) (by rfl) ?_
  refine ev_r_getR (pc := 32) (y := 58) (ci := 8) (f := 0) (fin := 0) (t := 5) (by decide +kernel) (by decide +kernel) (by exact ev_ob_281) rfl rfl ?_
  intro r7 hr7
  have hr7 : r7 = 0 ∨ ev_isOb (r7 - 1) 5 = true := hr7
  refine ev_r_aload_n (pc := 35) (k := 0) (v := .ref 281) trivial (by decide +kernel) (by rfl) ?_
  refine ev_r_getR (pc := 36) (y := 58) (ci := 8) (f := 0) (fin := 0) (t := 5) (by decide +kernel) (by decide +kernel) (by exact ev_ob_281) rfl rfl ?_
  intro r8 hr8
  have hr8 : r8 = 0 ∨ ev_isOb (r8 - 1) 5 = true := hr8
  refine ev_r_chk ?_
  intro c9
  refine ev_r_dr (r := r8) (fun v => [v, ev_nv r7, .ref 281]) c9 ?_
  refine ev_r_virt (pc := 39) (y := 85) (mi := 60) (na := 0) (k := (r8 - 1)) (as := []) (rest := [ev_nv r7, .ref 281]) (encc := ev_oI) (Q := ev_rng) (fun x S1 h => jt_60 d (by omega) Q ((r8 - 1)) (hr8.resolve_left c9) s6 x S1 h) (by exact (hr8.resolve_left c9)) (by decide +kernel) (by decide +kernel) (by decide +kernel) (by decide +kernel) rfl (by (try simp only [ev_sum, ev_nv_cat]); first | done | rfl) ?_
  intro x11 s10 hx11
  show ev_w _ _ _ _ _ [.int (Int32.ofInt x11), ev_nv r7, .ref 281] _ _ _ _
  refine ev_r_chk ?_
  intro c12
  refine ev_r_dr (r := r7) (fun v => [.int (Int32.ofInt x11), v, .ref 281]) c12 ?_
  refine ev_r_virt (pc := 42) (y := 89) (mi := 59) (na := 1) (k := (r7 - 1)) (as := [.int (Int32.ofInt x11)]) (rest := [.ref 281]) (encc := ev_oI) (Q := ev_bl) (fun x S1 h => jt_59 d (by omega) Q ((r7 - 1)) x11 (hr7.resolve_left c12) hx11 s10 x S1 h) (by exact (hr7.resolve_left c12)) (by decide +kernel) (by decide +kernel) (by decide +kernel) (by decide +kernel) rfl (by (try simp only [ev_sum, ev_nv_cat]); first | done | rfl) ?_
  intro x14 s13 hx14
  replace hx14 := ev_bl_rng hx14
  show ev_w _ _ _ _ _ [.int (Int32.ofInt x14), .ref 281] _ _ _ _
  refine ev_r_jn (Q := fun K => ∀ (x15 : Int) (hx15 : ev_rng x15), ∀ (s18 : ev_St) (w16 : List (Nat × Value)), ev_lk w16 0 = some (.ref 281) → ev_w none (ev_Mof 122) d 67 w16 [.int (Int32.ofInt x15), .ref 281] s18 (K x15 s18) ev_eI ev_rng) ?_ ?_
  · intro x15 hx15 s18 w16 e17
    refine ev_r_putI (pc := 67) (y := 96) (ci := 8) (f := 2) hx15 (by decide +kernel) (by decide +kernel) (by exact ev_ob_281) rfl rfl ?_
    intro s19
    refine ev_r_iconst (pc := 70) (k := 1) (by decide +kernel) ?_
    refine ev_r_istore_n (pc := 71) (k := 2) (by decide +kernel) (by decide +kernel) rfl ?_
    refine ev_r_iconst (pc := 72) (k := 0) (by decide +kernel) ?_
    refine ev_r_istore_n (pc := 73) (k := 3) (by decide +kernel) (by decide +kernel) rfl ?_
    exact jlt_122_74 d hd Q     Q 1 (by decide) 0 (by decide) s19 _ (by exact (ev_l1 (ev_l1 e17 (by decide) (by decide)) (by decide) (by decide))) (by exact (ev_lk_st1 ev_lk_st1_self (by decide) rfl)) (by exact ev_lk_st1_self)
  · intro K67 hK67
    refine ev_r_if (pc := 45) (q := .eq) (o := 21) (t := 66) (c := x14 = 0) (by decide +kernel) (ev_k_eq hx14 ev_rng0) (by decide +kernel) ?_ ?_
    · intro c78
      refine ev_r_iconst (pc := 66) (k := -1) (by decide +kernel) ?_
      exact hK67 ((-1)) (by decide) s13 _ (by rfl)
    · intro c78
      refine ev_r_aload_n (pc := 48) (k := 0) (v := .ref 281) trivial (by decide +kernel) (by rfl) ?_
      refine ev_r_getR (pc := 49) (y := 58) (ci := 8) (f := 0) (fin := 0) (t := 5) (by decide +kernel) (by decide +kernel) (by exact ev_ob_281) rfl rfl ?_
      intro r79 hr79
      have hr79 : r79 = 0 ∨ ev_isOb (r79 - 1) 5 = true := hr79
      refine ev_r_chk ?_
      intro c80
      refine ev_r_dr (r := r79) (fun v => [v, .ref 281]) c80 ?_
      refine ev_r_getC (pc := 52) (y := 93) (ci := 5) (f := 5) (fin := 2) (k' := ((r79 - 1) + 6)) (by decide +kernel) (by decide +kernel) (by exact (hr79.resolve_left c80)) rfl rfl ?_
      refine ev_r_aload_n (pc := 55) (k := 0) (v := .ref 281) trivial (by decide +kernel) (by rfl) ?_
      refine ev_r_getR (pc := 56) (y := 58) (ci := 8) (f := 0) (fin := 0) (t := 5) (by decide +kernel) (by decide +kernel) (by exact ev_ob_281) rfl rfl ?_
      intro r81 hr81
      have hr81 : r81 = 0 ∨ ev_isOb (r81 - 1) 5 = true := hr81
      refine ev_r_chk ?_
      intro c82
      refine ev_r_dr (r := r81) (fun v => [v, .ref (((r79 - 1) + 6)), .ref 281]) c82 ?_
      refine ev_r_virt (pc := 59) (y := 85) (mi := 60) (na := 0) (k := (r81 - 1)) (as := []) (rest := [.ref (((r79 - 1) + 6)), .ref 281]) (encc := ev_oI) (Q := ev_rng) (fun x S1 h => jt_60 d (by omega) Q ((r81 - 1)) (hr81.resolve_left c82) s13 x S1 h) (by exact (hr81.resolve_left c82)) (by decide +kernel) (by decide +kernel) (by decide +kernel) (by decide +kernel) rfl (by (try simp only [ev_sum, ev_nv_cat]); first | done | rfl) ?_
      intro x84 s83 hx84
      show ev_w _ _ _ _ _ [.int (Int32.ofInt x84), .ref (((r79 - 1) + 6)), .ref 281] _ _ _ _
      refine ev_r_iald (pc := 62) hx84 (by decide +kernel) (by exact (ev_fo_5_5 (hr79.resolve_left c80))) ?_
      intro x85 hx85
      refine ev_r_goto (pc := 63) (o := 4) (t := 67) (by decide +kernel) (by decide +kernel) ?_
      exact hK67 x85 hx85 s83 _ (by rfl)
def jb_115_12 (Q : Nat)   (K12 : Int → Int → ev_St → Option ((Int) × ev_St)) (x2 : Int) (x3 : Int) (s8 : ev_St) : Option ((Int) × ev_St) := if 160 < x3 then (some ((-1), s8)) else (ev_b (s8.2.2.1 281 1) fun r10 => ev_if (r10 ≠ 0) (ev_b (s8.1 ((r10 - 1)) 1) fun x12 => if x12 < x2 then (some ((-1), s8)) else (ev_bd (jm_122 Q x2 s8) fun x15 s14 => ev_b (s14.1 281 10) fun x16 => if x16 = 0 then (if x15 ≠ 1 then (if x15 ≠ 3 then (ev_jn (fun (x20 : Int) (s24 : ev_St) => ev_ck (x3 + 1) fun x25 => K12 x20 x25 s24) fun K104 => ev_jn (fun  (s30 : ev_St) => ev_ck (x2 + 1) fun x31 => K104 x31 s30) fun K100 => if x15 ≠ 4 then (K100  s14) else (ev_b (s14.1 281 13) fun x33 => if x33 ≤ x2 then (K100  s14) else (ev_b (s14.1 281 13) fun x35 => K104 x35 s14))) else (some ((-1), s14))) else (ev_b (s14.1 281 11) fun x36 => ev_ck (1000 * x36) fun x37 => ev_b (s14.1 281 12) fun x38 => ev_ck (x37 + x38) fun x39 => some (x39, s14))) else (some ((-2), s14)))))
def jl_115_12 (Q : Nat)   : Nat → Int → Int → ev_St → Option ((Int) × ev_St)
  | 0 => fun _ _ _ => none
  | q + 1 => jb_115_12 Q   (jl_115_12 Q   q)
theorem jbt_115_12 (d : Nat) (hd : 6 ≤ d + 1) (Q : Nat)     (K12 : Int → Int → ev_St → Option ((Int) × ev_St)) (hK12 : ∀ (x2 : Int) (hx2 : ev_rng x2), ∀ (x3 : Int) (hx3 : ev_rng x3), ∀ (s8 : ev_St) (w4 : List (Nat × Value)), ev_lk w4 0 = some (.ref 281) → ev_lk w4 4 = some (.int (Int32.ofInt x2)) → ev_lk w4 5 = some (.int (Int32.ofInt x3)) → ev_w none (ev_Mof 115) d 12 w4 [] s8 (K12 x2 x3 s8) ev_eI ev_rng) : ∀ (x2 : Int) (hx2 : ev_rng x2), ∀ (x3 : Int) (hx3 : ev_rng x3), ∀ (s8 : ev_St) (w4 : List (Nat × Value)), ev_lk w4 0 = some (.ref 281) → ev_lk w4 4 = some (.int (Int32.ofInt x2)) → ev_lk w4 5 = some (.int (Int32.ofInt x3)) → ev_w none (ev_Mof 115) d 12 w4 [] s8 (jb_115_12 Q   K12 x2 x3 s8) ev_eI ev_rng := by
  intro x2 hx2 x3 hx3 s8 w4 e5 e6 e7
  unfold jb_115_12
  refine ev_r_iload (pc := 12) (k := 5) (v := Int32.ofInt x3) (by decide +kernel) (by exact e7) ?_
  refine ev_r_sipush (pc := 14) (k := 160) (by decide +kernel) (by decide +kernel) ?_
  refine ev_r_icmp (pc := 17) (q := .gt) (o := 95) (t := 112) (c := 160 < x3) (by decide +kernel) (ev_k_gt hx3 (by decide)) (by decide +kernel) ?_ ?_
  · intro c9
    refine ev_r_iconst (pc := 112) (k := -1) (by decide +kernel) ?_
    exact ev_r_ireturn (pc := 113) (x := (-1)) (v := Int32.ofInt ((-1))) (ty := .int) (by decide) (by decide +kernel) (by decide +kernel) rfl rfl
  · intro c9
    refine ev_r_iload (pc := 20) (k := 4) (v := Int32.ofInt x2) (by decide +kernel) (by exact e6) ?_
    refine ev_r_aload_n (pc := 22) (k := 0) (v := .ref 281) trivial (by decide +kernel) (by exact e5) ?_
    refine ev_r_getR (pc := 23) (y := 27) (ci := 8) (f := 1) (fin := 0) (t := 10) (by decide +kernel) (by decide +kernel) (by exact ev_ob_281) rfl rfl ?_
    intro r10 hr10
    have hr10 : r10 = 0 ∨ ev_isOb (r10 - 1) 10 = true := hr10
    refine ev_r_chk ?_
    intro c11
    refine ev_r_dr (r := r10) (fun v => [v, .int (Int32.ofInt x2)]) c11 ?_
    refine ev_r_getI (pc := 26) (y := 31) (ci := 10) (f := 1) (fin := 0) (by decide +kernel) (by decide +kernel) (by exact (hr10.resolve_left c11)) rfl ?_
    intro x12 hx12
    refine ev_r_icmp (pc := 29) (q := .gt) (o := 83) (t := 112) (c := x12 < x2) (by decide +kernel) (ev_k_gt hx2 hx12) (by decide +kernel) ?_ ?_
    · intro c13
      refine ev_r_iconst (pc := 112) (k := -1) (by decide +kernel) ?_
      exact ev_r_ireturn (pc := 113) (x := (-1)) (v := Int32.ofInt ((-1))) (ty := .int) (by decide) (by decide +kernel) (by decide +kernel) rfl rfl
    · intro c13
      refine ev_r_aload_n (pc := 32) (k := 0) (v := .ref 281) trivial (by decide +kernel) (by exact e5) ?_
      refine ev_r_iload (pc := 33) (k := 4) (v := Int32.ofInt x2) (by decide +kernel) (by exact e6) ?_
      refine ev_r_virt (pc := 35) (y := 35) (mi := 122) (na := 1) (k := 281) (as := [.int (Int32.ofInt x2)]) (rest := []) (encc := ev_oI) (Q := ev_rng) (fun x S1 h => jt_122 d (by omega) Q x2 hx2 s8 x S1 h) (by exact ev_ob_281) (by decide +kernel) (by decide +kernel) (by decide +kernel) (by decide +kernel) rfl (by (try simp only [ev_sum, ev_nv_cat]); first | done | rfl) ?_
      intro x15 s14 hx15
      show ev_w _ _ _ _ _ [.int (Int32.ofInt x15)] _ _ _ _
      refine ev_r_istore (pc := 38) (k := 6) (by decide +kernel) (by decide +kernel) rfl ?_
      refine ev_r_aload_n (pc := 40) (k := 0) (v := .ref 281) trivial (by decide +kernel) (by exact (ev_l1 e5 (by decide) (by decide))) ?_
      refine ev_r_getI (pc := 41) (y := 39) (ci := 8) (f := 10) (fin := 0) (by decide +kernel) (by decide +kernel) (by exact ev_ob_281) rfl ?_
      intro x16 hx16
      refine ev_r_if (pc := 44) (q := .eq) (o := 6) (t := 50) (c := x16 = 0) (by decide +kernel) (ev_k_eq hx16 ev_rng0) (by decide +kernel) ?_ ?_
      · intro c17
        refine ev_r_iload (pc := 50) (k := 6) (v := Int32.ofInt x15) (by decide +kernel) (by exact ev_lk_st1_self) ?_
        refine ev_r_iconst (pc := 52) (k := 1) (by decide +kernel) ?_
        refine ev_r_icmp (pc := 53) (q := .ne) (o := 17) (t := 70) (c := x15 ≠ 1) (by decide +kernel) (ev_k_ne hx15 (by decide)) (by decide +kernel) ?_ ?_
        · intro c18
          refine ev_r_iload (pc := 70) (k := 6) (v := Int32.ofInt x15) (by decide +kernel) (by exact ev_lk_st1_self) ?_
          refine ev_r_iconst (pc := 72) (k := 3) (by decide +kernel) ?_
          refine ev_r_icmp (pc := 73) (q := .ne) (o := 5) (t := 78) (c := x15 ≠ 3) (by decide +kernel) (ev_k_ne hx15 (by decide)) (by decide +kernel) ?_ ?_
          · intro c19
            refine ev_r_iload (pc := 78) (k := 6) (v := Int32.ofInt x15) (by decide +kernel) (by exact ev_lk_st1_self) ?_
            refine ev_r_iconst (pc := 80) (k := 4) (by decide +kernel) ?_
            refine ev_r_jn (Q := fun K => ∀ (x20 : Int) (hx20 : ev_rng x20), ∀ (s24 : ev_St) (w21 : List (Nat × Value)), ev_lk w21 0 = some (.ref 281) → ev_lk w21 5 = some (.int (Int32.ofInt x3)) → ev_w none (ev_Mof 115) d 104 w21 [.int (Int32.ofInt x20)] s24 (K x20 s24) ev_eI ev_rng) ?_ ?_
            · intro x20 hx20 s24 w21 e22 e23
              refine ev_r_istore (pc := 104) (k := 4) (by decide +kernel) (by decide +kernel) rfl ?_
              refine ev_r_iinc (pc := 106) (k := 5) (c := 1) (x := x3) (by decide +kernel) (by decide +kernel) (by exact (ev_l1 e23 (by decide) (by decide))) (fun _ => rfl) ?_
              intro x25 hx25
              refine ev_r_goto (pc := 109) (o := (-97)) (t := 12) (by decide +kernel) (by decide +kernel) ?_
              exact hK12 x20 hx20 x25 hx25 s24 _ (by exact (ev_l1 (ev_l1 e22 (by decide) (by decide)) (by decide) (by decide))) (by exact (ev_lk_st1 ev_lk_st1_self (by decide) rfl)) (by exact ev_lk_st1_self)
            · intro K104 hK104
              refine ev_r_jn (Q := fun K => ∀ (s30 : ev_St) (w26 : List (Nat × Value)), ev_lk w26 0 = some (.ref 281) → ev_lk w26 4 = some (.int (Int32.ofInt x2)) → ev_lk w26 5 = some (.int (Int32.ofInt x3)) → ev_w none (ev_Mof 115) d 100 w26 [] s30 (K  s30) ev_eI ev_rng) ?_ ?_
              · intro  s30 w26 e27 e28 e29
                refine ev_r_iload (pc := 100) (k := 4) (v := Int32.ofInt x2) (by decide +kernel) (by exact e28) ?_
                refine ev_r_iconst (pc := 102) (k := 1) (by decide +kernel) ?_
                refine ev_r_iadd (pc := 103) (by decide +kernel) ?_
                intro x31 hx31
                exact hK104 x31 hx31 s30 _ (by exact e27) (by exact e29)
              · intro K100 hK100
                refine ev_r_icmp (pc := 81) (q := .ne) (o := 19) (t := 100) (c := x15 ≠ 4) (by decide +kernel) (ev_k_ne hx15 (by decide)) (by decide +kernel) ?_ ?_
                · intro c32
                  exact hK100  s14 _ (by exact (ev_l1 e5 (by decide) (by decide))) (by exact (ev_l1 e6 (by decide) (by decide))) (by exact (ev_lk_st1 e7 (by decide) rfl))
                · intro c32
                  refine ev_r_aload_n (pc := 84) (k := 0) (v := .ref 281) trivial (by decide +kernel) (by exact (ev_l1 e5 (by decide) (by decide))) ?_
                  refine ev_r_getI (pc := 85) (y := 49) (ci := 8) (f := 13) (fin := 0) (by decide +kernel) (by decide +kernel) (by exact ev_ob_281) rfl ?_
                  intro x33 hx33
                  refine ev_r_iload (pc := 88) (k := 4) (v := Int32.ofInt x2) (by decide +kernel) (by exact (ev_l1 e6 (by decide) (by decide))) ?_
                  refine ev_r_icmp (pc := 90) (q := .le) (o := 10) (t := 100) (c := x33 ≤ x2) (by decide +kernel) (ev_k_le hx33 hx2) (by decide +kernel) ?_ ?_
                  · intro c34
                    exact hK100  s14 _ (by exact (ev_l1 e5 (by decide) (by decide))) (by exact (ev_l1 e6 (by decide) (by decide))) (by exact (ev_lk_st1 e7 (by decide) rfl))
                  · intro c34
                    refine ev_r_aload_n (pc := 93) (k := 0) (v := .ref 281) trivial (by decide +kernel) (by exact (ev_l1 e5 (by decide) (by decide))) ?_
                    refine ev_r_getI (pc := 94) (y := 49) (ci := 8) (f := 13) (fin := 0) (by decide +kernel) (by decide +kernel) (by exact ev_ob_281) rfl ?_
                    intro x35 hx35
                    refine ev_r_goto (pc := 97) (o := 7) (t := 104) (by decide +kernel) (by decide +kernel) ?_
                    exact hK104 x35 hx35 s14 _ (by exact (ev_l1 e5 (by decide) (by decide))) (by exact (ev_lk_st1 e7 (by decide) rfl))
          · intro c19
            refine ev_r_iconst (pc := 76) (k := -1) (by decide +kernel) ?_
            exact ev_r_ireturn (pc := 77) (x := (-1)) (v := Int32.ofInt ((-1))) (ty := .int) (by decide) (by decide +kernel) (by decide +kernel) rfl rfl
        · intro c18
          refine ev_r_sipush (pc := 56) (k := 1000) (by decide +kernel) (by decide +kernel) ?_
          refine ev_r_aload_n (pc := 59) (k := 0) (v := .ref 281) trivial (by decide +kernel) (by exact (ev_l1 e5 (by decide) (by decide))) ?_
          refine ev_r_getI (pc := 60) (y := 43) (ci := 8) (f := 11) (fin := 0) (by decide +kernel) (by decide +kernel) (by exact ev_ob_281) rfl ?_
          intro x36 hx36
          refine ev_r_imul (pc := 63) (by decide +kernel) ?_
          intro x37 hx37
          refine ev_r_aload_n (pc := 64) (k := 0) (v := .ref 281) trivial (by decide +kernel) (by exact (ev_l1 e5 (by decide) (by decide))) ?_
          refine ev_r_getI (pc := 65) (y := 46) (ci := 8) (f := 12) (fin := 0) (by decide +kernel) (by decide +kernel) (by exact ev_ob_281) rfl ?_
          intro x38 hx38
          refine ev_r_iadd (pc := 68) (by decide +kernel) ?_
          intro x39 hx39
          exact ev_r_ireturn (pc := 69) (x := x39) (v := Int32.ofInt x39) (ty := .int) hx39 (by decide +kernel) (by decide +kernel) rfl rfl
      · intro c17
        refine ev_r_bipush (pc := 47) (k := -2) (by decide +kernel) (by decide +kernel) ?_
        exact ev_r_ireturn (pc := 49) (x := (-2)) (v := Int32.ofInt ((-2))) (ty := .int) (by decide) (by decide +kernel) (by decide +kernel) rfl rfl
theorem jlt_115_12 (d : Nat) (hd : 6 ≤ d + 1) (Q : Nat)     : ∀ q : Nat, ∀ (x2 : Int) (hx2 : ev_rng x2), ∀ (x3 : Int) (hx3 : ev_rng x3), ∀ (s8 : ev_St) (w4 : List (Nat × Value)), ev_lk w4 0 = some (.ref 281) → ev_lk w4 4 = some (.int (Int32.ofInt x2)) → ev_lk w4 5 = some (.int (Int32.ofInt x3)) → ev_w none (ev_Mof 115) d 12 w4 [] s8 (jl_115_12 Q   q x2 x3 s8) ev_eI ev_rng := by
  intro q
  induction q with
  | zero =>
    intro x2 hx2 x3 hx3 s8 w4 e5 e6 e7
    exact ev_w_none
  | succ q ih => exact jbt_115_12 d hd Q     _ ih
/-- MendBench$Search.ahead(LMendBench$Pattern;LMendBench$Text;I)I -/
def jm_115 (Q : Nat) (a0 : Nat) (a1 : Nat) (a2 : Int) (S : ev_St) : Option ((Int) × ev_St) := ev_bd (jm_121 Q a0 a1 S) fun _ s1 => jl_115_12 Q   Q a2 0 s1
theorem jt_115 (d : Nat) (hd : 6 ≤ d) (Q : Nat) (a0 : Nat) (a1 : Nat) (a2 : Int) (ha0 : a0 = 0 ∨ ev_isOb (a0 - 1) 5 = true) (ha1 : a1 = 0 ∨ ev_isOb (a1 - 1) 10 = true) (ha2 : ev_rng a2) (S : ev_St) (x : Int) (S' : ev_St) (hJ : jm_115 Q a0 a1 a2 S = some (x, S')) : ev_Ref d 115 [.ref 281, ev_nv a0, ev_nv a1, .int (Int32.ofInt a2)] S (ev_eI x) S' (ev_rng x) := by
  obtain ⟨d, rfl⟩ : ∃ e, d = e + 1 := ⟨d - 1, by omega⟩
  refine ev_ref_of (P := ev_rng) (lv := [(0, .ref 281), (1, ev_nv a0), (2, ev_nv a1), (3, .int (Int32.ofInt a2))]) (by decide +kernel) (by (try simp only [ev_sum, ev_nv_cat]); first | done | rfl) (by (try simp only [lv_args, ev_nv_cat]); first | done | rfl) ?_ x S' hJ
  unfold jm_115
  refine ev_r_aload_n (pc := 0) (k := 0) (v := .ref 281) trivial (by decide +kernel) (by rfl) ?_
  refine ev_r_aload_n (pc := 1) (k := 1) (v := ev_nv a0) (ev_isR_nv _) (by decide +kernel) (by rfl) ?_
  refine ev_r_aload_n (pc := 2) (k := 2) (v := ev_nv a1) (ev_isR_nv _) (by decide +kernel) (by rfl) ?_
  refine ev_r_virt (pc := 3) (y := 21) (mi := 121) (na := 2) (k := 281) (as := [ev_nv a0, ev_nv a1]) (rest := []) (encc := ev_oU) (Q := ev_PU) (fun x S1 h => jt_121 d (by omega) Q a0 a1 (by exact ha0) (by exact ha1) S x S1 h) (by exact ev_ob_281) (by decide +kernel) (by decide +kernel) (by decide +kernel) (by decide +kernel) rfl (by (try simp only [ev_sum, ev_nv_cat]); first | done | rfl) ?_
  intro _ s1 _
  show ev_w _ _ _ _ _ [] _ _ _ _
  refine ev_r_iload_n (pc := 6) (k := 3) (v := Int32.ofInt a2) (by decide +kernel) (by rfl) ?_
  refine ev_r_istore (pc := 7) (k := 4) (by decide +kernel) (by decide +kernel) rfl ?_
  refine ev_r_iconst (pc := 9) (k := 0) (by decide +kernel) ?_
  refine ev_r_istore (pc := 10) (k := 5) (by decide +kernel) (by decide +kernel) rfl ?_
  exact jlt_115_12 d hd Q     Q a2 ha2 0 (by decide) s1 _ (by exact (ev_l1 (ev_l1 (by rfl) (by decide) (by decide)) (by decide) (by decide))) (by exact (ev_lk_st1 ev_lk_st1_self (by decide) rfl)) (by exact ev_lk_st1_self)
/-- MendBench.isLower(I)Z -/
def jm_209 (Q : Nat) (a0 : Int) (S : ev_St) : Option ((Int) × ev_St) := if a0 < 97 then (some (0, S)) else (if 122 < a0 then (some (0, S)) else (some (1, S)))
theorem jt_209 (d : Nat) (hd : 1 ≤ d) (Q : Nat) (a0 : Int) (ha0 : ev_rng a0) (S : ev_St) (x : Int) (S' : ev_St) (hJ : jm_209 Q a0 S = some (x, S')) : ev_Ref d 209 [.int (Int32.ofInt a0)] S (ev_eI x) S' (ev_bl x) := by
  obtain ⟨d, rfl⟩ : ∃ e, d = e + 1 := ⟨d - 1, by omega⟩
  refine ev_ref_of (P := ev_bl) (lv := [(0, .int (Int32.ofInt a0))]) (by decide +kernel) (by (try simp only [ev_sum, ev_nv_cat]); first | done | rfl) (by (try simp only [lv_args, ev_nv_cat]); first | done | rfl) ?_ x S' hJ
  unfold jm_209
  refine ev_r_iload_n (pc := 0) (k := 0) (v := Int32.ofInt a0) (by decide +kernel) (by rfl) ?_
  refine ev_r_bipush (pc := 1) (k := 97) (by decide +kernel) (by decide +kernel) ?_
  refine ev_r_icmp (pc := 3) (q := .lt) (o := 13) (t := 16) (c := a0 < 97) (by decide +kernel) (ev_k_lt ha0 (by decide)) (by decide +kernel) ?_ ?_
  · intro c1
    refine ev_r_iconst (pc := 16) (k := 0) (by decide +kernel) ?_
    exact ev_r_ireturn (pc := 17) (x := 0) (v := Int32.ofInt 0) (ty := .boolean) (by decide : ev_bl 0) (by decide +kernel) (by decide +kernel) (ev_ret_bl (by decide : ev_bl 0)) rfl
  · intro c1
    refine ev_r_iload_n (pc := 6) (k := 0) (v := Int32.ofInt a0) (by decide +kernel) (by rfl) ?_
    refine ev_r_bipush (pc := 7) (k := 122) (by decide +kernel) (by decide +kernel) ?_
    refine ev_r_icmp (pc := 9) (q := .gt) (o := 7) (t := 16) (c := 122 < a0) (by decide +kernel) (ev_k_gt ha0 (by decide)) (by decide +kernel) ?_ ?_
    · intro c2
      refine ev_r_iconst (pc := 16) (k := 0) (by decide +kernel) ?_
      exact ev_r_ireturn (pc := 17) (x := 0) (v := Int32.ofInt 0) (ty := .boolean) (by decide : ev_bl 0) (by decide +kernel) (by decide +kernel) (ev_ret_bl (by decide : ev_bl 0)) rfl
    · intro c2
      refine ev_r_iconst (pc := 12) (k := 1) (by decide +kernel) ?_
      refine ev_r_goto (pc := 13) (o := 4) (t := 17) (by decide +kernel) (by decide +kernel) ?_
      exact ev_r_ireturn (pc := 17) (x := 1) (v := Int32.ofInt 1) (ty := .boolean) (by decide : ev_bl 1) (by decide +kernel) (by decide +kernel) (ev_ret_bl (by decide : ev_bl 1)) rfl
/-- MendBench.isDigit(I)Z -/
def jm_208 (Q : Nat) (a0 : Int) (S : ev_St) : Option ((Int) × ev_St) := if a0 < 48 then (some (0, S)) else (if 57 < a0 then (some (0, S)) else (some (1, S)))
theorem jt_208 (d : Nat) (hd : 1 ≤ d) (Q : Nat) (a0 : Int) (ha0 : ev_rng a0) (S : ev_St) (x : Int) (S' : ev_St) (hJ : jm_208 Q a0 S = some (x, S')) : ev_Ref d 208 [.int (Int32.ofInt a0)] S (ev_eI x) S' (ev_bl x) := by
  obtain ⟨d, rfl⟩ : ∃ e, d = e + 1 := ⟨d - 1, by omega⟩
  refine ev_ref_of (P := ev_bl) (lv := [(0, .int (Int32.ofInt a0))]) (by decide +kernel) (by (try simp only [ev_sum, ev_nv_cat]); first | done | rfl) (by (try simp only [lv_args, ev_nv_cat]); first | done | rfl) ?_ x S' hJ
  unfold jm_208
  refine ev_r_iload_n (pc := 0) (k := 0) (v := Int32.ofInt a0) (by decide +kernel) (by rfl) ?_
  refine ev_r_bipush (pc := 1) (k := 48) (by decide +kernel) (by decide +kernel) ?_
  refine ev_r_icmp (pc := 3) (q := .lt) (o := 13) (t := 16) (c := a0 < 48) (by decide +kernel) (ev_k_lt ha0 (by decide)) (by decide +kernel) ?_ ?_
  · intro c1
    refine ev_r_iconst (pc := 16) (k := 0) (by decide +kernel) ?_
    exact ev_r_ireturn (pc := 17) (x := 0) (v := Int32.ofInt 0) (ty := .boolean) (by decide : ev_bl 0) (by decide +kernel) (by decide +kernel) (ev_ret_bl (by decide : ev_bl 0)) rfl
  · intro c1
    refine ev_r_iload_n (pc := 6) (k := 0) (v := Int32.ofInt a0) (by decide +kernel) (by rfl) ?_
    refine ev_r_bipush (pc := 7) (k := 57) (by decide +kernel) (by decide +kernel) ?_
    refine ev_r_icmp (pc := 9) (q := .gt) (o := 7) (t := 16) (c := 57 < a0) (by decide +kernel) (ev_k_gt ha0 (by decide)) (by decide +kernel) ?_ ?_
    · intro c2
      refine ev_r_iconst (pc := 16) (k := 0) (by decide +kernel) ?_
      exact ev_r_ireturn (pc := 17) (x := 0) (v := Int32.ofInt 0) (ty := .boolean) (by decide : ev_bl 0) (by decide +kernel) (by decide +kernel) (ev_ret_bl (by decide : ev_bl 0)) rfl
    · intro c2
      refine ev_r_iconst (pc := 12) (k := 1) (by decide +kernel) ?_
      refine ev_r_goto (pc := 13) (o := 4) (t := 17) (by decide +kernel) (by decide +kernel) ?_
      exact ev_r_ireturn (pc := 17) (x := 1) (v := Int32.ofInt 1) (ty := .boolean) (by decide : ev_bl 1) (by decide +kernel) (by decide +kernel) (ev_ret_bl (by decide : ev_bl 1)) rfl
/-- MendBench$Mender.lengthOf(LMendBench$Text;IZ)I -/
def jm_49 (Q : Nat) (a0 : Nat) (a1 : Int) (a2 : Int) (S : ev_St) : Option ((Int) × ev_St) := ev_if (a0 ≠ 0) (ev_bd (jm_151 Q ((a0 - 1)) a1 S) fun x3 s2 => ev_ck (a1 + 1) fun x4 => ev_if (a0 ≠ 0) (ev_bd (jm_151 Q ((a0 - 1)) x4 s2) fun x7 s6 => if x3 ≠ 92 then (if x3 ≠ 36 then (if x3 ≠ 63 then (some (1, s6)) else (if a2 ≠ 0 then (some (0, s6)) else (ev_bd (jm_208 Q x7 s6) fun x13 s12 => if x13 = 0 then (some (0, s12)) else (ev_ck (a1 + 2) fun x15 => ev_if (a0 ≠ 0) (ev_bd (jm_151 Q ((a0 - 1)) x15 s12) fun x18 s17 => if x18 ≠ 123 then (some (0, s17)) else (some (3, s17))))))) else (ev_jn (fun (x20 : Int) (s23 : ev_St) => ev_bd (jm_208 Q x7 s23) fun x25 s24 => if x25 = 0 then (if x20 = 0 then (some (0, s24)) else (some (4, s24))) else (some (2, s24))) fun K118 => ev_jn (fun  (s30 : ev_St) => K118 0 s30) fun K117 => if x7 ≠ 123 then (K117  s6) else (ev_ck (a1 + 2) fun x32 => ev_if (a0 ≠ 0) (ev_bd (jm_151 Q ((a0 - 1)) x32 s6) fun x35 s34 => ev_bd (jm_209 Q x35 s34) fun x37 s36 => if x37 = 0 then (K117  s36) else (ev_ck (a1 + 3) fun x39 => ev_if (a0 ≠ 0) (ev_bd (jm_151 Q ((a0 - 1)) x39 s36) fun x42 s41 => if x42 ≠ 125 then (K117  s41) else (K118 1 s41))))))) else (ev_jn (fun (x44 : Int) (s47 : ev_St) => if x44 ≠ 0 then (some (2, s47)) else (ev_bd (jm_211 Q x7 s47) fun x50 s49 => if x50 = 0 then (some (0, s49)) else (some (2, s49)))) fun K54 => ev_jn (fun  (s54 : ev_St) => K54 1 s54) fun K49 => if x7 = 85 then (K49  s6) else (if x7 = 76 then (K49  s6) else (if x7 = 69 then (K49  s6) else (if x7 ≠ 110 then (K54 0 s6) else (K49  s6)))))))
theorem jt_49 (d : Nat) (hd : 2 ≤ d) (Q : Nat) (a0 : Nat) (a1 : Int) (a2 : Int) (ha0 : a0 = 0 ∨ ev_isOb (a0 - 1) 10 = true) (ha1 : ev_rng a1) (ha2 : ev_rng a2) (S : ev_St) (x : Int) (S' : ev_St) (hJ : jm_49 Q a0 a1 a2 S = some (x, S')) : ev_Ref d 49 [ev_nv a0, .int (Int32.ofInt a1), .int (Int32.ofInt a2)] S (ev_eI x) S' (ev_rng x) := by
  obtain ⟨d, rfl⟩ : ∃ e, d = e + 1 := ⟨d - 1, by omega⟩
  refine ev_ref_of (P := ev_rng) (lv := [(0, ev_nv a0), (1, .int (Int32.ofInt a1)), (2, .int (Int32.ofInt a2))]) (by decide +kernel) (by (try simp only [ev_sum, ev_nv_cat]); first | done | rfl) (by (try simp only [lv_args, ev_nv_cat]); first | done | rfl) ?_ x S' hJ
  unfold jm_49
  refine ev_r_aload_n (pc := 0) (k := 0) (v := ev_nv a0) (ev_isR_nv _) (by decide +kernel) (by rfl) ?_
  refine ev_r_iload_n (pc := 1) (k := 1) (v := Int32.ofInt a1) (by decide +kernel) (by rfl) ?_
  refine ev_r_chk ?_
  intro c1
  refine ev_r_dr (r := a0) (fun v => [.int (Int32.ofInt a1), v]) c1 ?_
  refine ev_r_virt (pc := 2) (y := 109) (mi := 151) (na := 1) (k := (a0 - 1)) (as := [.int (Int32.ofInt a1)]) (rest := []) (encc := ev_oI) (Q := ev_rng) (fun x S1 h => jt_151 d (by omega) Q ((a0 - 1)) a1 (ha0.resolve_left c1) ha1 S x S1 h) (by exact (ha0.resolve_left c1)) (by decide +kernel) (by decide +kernel) (by decide +kernel) (by decide +kernel) rfl (by (try simp only [ev_sum, ev_nv_cat]); first | done | rfl) ?_
  intro x3 s2 hx3
  show ev_w _ _ _ _ _ [.int (Int32.ofInt x3)] _ _ _ _
  refine ev_r_istore_n (pc := 5) (k := 3) (by decide +kernel) (by decide +kernel) rfl ?_
  refine ev_r_aload_n (pc := 6) (k := 0) (v := ev_nv a0) (ev_isR_nv _) (by decide +kernel) (by exact (ev_l1 (by rfl) (by decide) (by decide))) ?_
  refine ev_r_iload_n (pc := 7) (k := 1) (v := Int32.ofInt a1) (by decide +kernel) (by exact (ev_l1 (by rfl) (by decide) (by decide))) ?_
  refine ev_r_iconst (pc := 8) (k := 1) (by decide +kernel) ?_
  refine ev_r_iadd (pc := 9) (by decide +kernel) ?_
  intro x4 hx4
  refine ev_r_chk ?_
  intro c5
  refine ev_r_dr (r := a0) (fun v => [.int (Int32.ofInt x4), v]) c5 ?_
  refine ev_r_virt (pc := 10) (y := 109) (mi := 151) (na := 1) (k := (a0 - 1)) (as := [.int (Int32.ofInt x4)]) (rest := []) (encc := ev_oI) (Q := ev_rng) (fun x S1 h => jt_151 d (by omega) Q ((a0 - 1)) x4 (ha0.resolve_left c5) hx4 s2 x S1 h) (by exact (ha0.resolve_left c5)) (by decide +kernel) (by decide +kernel) (by decide +kernel) (by decide +kernel) rfl (by (try simp only [ev_sum, ev_nv_cat]); first | done | rfl) ?_
  intro x7 s6 hx7
  show ev_w _ _ _ _ _ [.int (Int32.ofInt x7)] _ _ _ _
  refine ev_r_istore (pc := 13) (k := 4) (by decide +kernel) (by decide +kernel) rfl ?_
  refine ev_r_iload_n (pc := 15) (k := 3) (v := Int32.ofInt x3) (by decide +kernel) (by exact (ev_lk_st1 ev_lk_st1_self (by decide) rfl)) ?_
  refine ev_r_bipush (pc := 16) (k := 92) (by decide +kernel) (by decide +kernel) ?_
  refine ev_r_icmp (pc := 18) (q := .ne) (o := 57) (t := 75) (c := x3 ≠ 92) (by decide +kernel) (ev_k_ne hx3 (by decide)) (by decide +kernel) ?_ ?_
  · intro c8
    refine ev_r_iload_n (pc := 75) (k := 3) (v := Int32.ofInt x3) (by decide +kernel) (by exact (ev_lk_st1 ev_lk_st1_self (by decide) rfl)) ?_
    refine ev_r_bipush (pc := 76) (k := 36) (by decide +kernel) (by decide +kernel) ?_
    refine ev_r_icmp (pc := 78) (q := .ne) (o := 65) (t := 143) (c := x3 ≠ 36) (by decide +kernel) (ev_k_ne hx3 (by decide)) (by decide +kernel) ?_ ?_
    · intro c9
      refine ev_r_iload_n (pc := 143) (k := 3) (v := Int32.ofInt x3) (by decide +kernel) (by exact (ev_lk_st1 ev_lk_st1_self (by decide) rfl)) ?_
      refine ev_r_bipush (pc := 144) (k := 63) (by decide +kernel) (by decide +kernel) ?_
      refine ev_r_icmp (pc := 146) (q := .ne) (o := 33) (t := 179) (c := x3 ≠ 63) (by decide +kernel) (ev_k_ne hx3 (by decide)) (by decide +kernel) ?_ ?_
      · intro c10
        refine ev_r_iconst (pc := 179) (k := 1) (by decide +kernel) ?_
        exact ev_r_ireturn (pc := 180) (x := 1) (v := Int32.ofInt 1) (ty := .int) (by decide) (by decide +kernel) (by decide +kernel) rfl rfl
      · intro c10
        refine ev_r_iload_n (pc := 149) (k := 2) (v := Int32.ofInt a2) (by decide +kernel) (by exact (ev_l1 (ev_lk_st1 (by rfl) (by decide) rfl) (by decide) (by decide))) ?_
        refine ev_r_if (pc := 150) (q := .ne) (o := 27) (t := 177) (c := a2 ≠ 0) (by decide +kernel) (ev_k_ne ha2 ev_rng0) (by decide +kernel) ?_ ?_
        · intro c11
          refine ev_r_iconst (pc := 177) (k := 0) (by decide +kernel) ?_
          exact ev_r_ireturn (pc := 178) (x := 0) (v := Int32.ofInt 0) (ty := .int) (by decide) (by decide +kernel) (by decide +kernel) rfl rfl
        · intro c11
          refine ev_r_iload (pc := 153) (k := 4) (v := Int32.ofInt x7) (by decide +kernel) (by exact ev_lk_st1_self) ?_
          refine ev_r_stat (pc := 155) (y := 120) (kind := 5) (mi := 208) (na := 1) (as := [.int (Int32.ofInt x7)]) (rest := []) (encc := ev_oI) (Q := ev_bl) (fun x S1 h => jt_208 d (by omega) Q x7 hx7 s6 x S1 h) (Or.inr (Or.inl rfl)) (by decide +kernel) (by decide +kernel) (by decide +kernel) (by decide +kernel) rfl (by (try simp only [ev_sum, ev_nv_cat]); first | done | rfl) ?_
          intro x13 s12 hx13
          replace hx13 := ev_bl_rng hx13
          show ev_w _ _ _ _ _ [.int (Int32.ofInt x13)] _ _ _ _
          refine ev_r_if (pc := 158) (q := .eq) (o := 19) (t := 177) (c := x13 = 0) (by decide +kernel) (ev_k_eq hx13 ev_rng0) (by decide +kernel) ?_ ?_
          · intro c14
            refine ev_r_iconst (pc := 177) (k := 0) (by decide +kernel) ?_
            exact ev_r_ireturn (pc := 178) (x := 0) (v := Int32.ofInt 0) (ty := .int) (by decide) (by decide +kernel) (by decide +kernel) rfl rfl
          · intro c14
            refine ev_r_aload_n (pc := 161) (k := 0) (v := ev_nv a0) (ev_isR_nv _) (by decide +kernel) (by exact (ev_l1 (ev_l1 (by rfl) (by decide) (by decide)) (by decide) (by decide))) ?_
            refine ev_r_iload_n (pc := 162) (k := 1) (v := Int32.ofInt a1) (by decide +kernel) (by exact (ev_l1 (ev_l1 (by rfl) (by decide) (by decide)) (by decide) (by decide))) ?_
            refine ev_r_iconst (pc := 163) (k := 2) (by decide +kernel) ?_
            refine ev_r_iadd (pc := 164) (by decide +kernel) ?_
            intro x15 hx15
            refine ev_r_chk ?_
            intro c16
            refine ev_r_dr (r := a0) (fun v => [.int (Int32.ofInt x15), v]) c16 ?_
            refine ev_r_virt (pc := 165) (y := 109) (mi := 151) (na := 1) (k := (a0 - 1)) (as := [.int (Int32.ofInt x15)]) (rest := []) (encc := ev_oI) (Q := ev_rng) (fun x S1 h => jt_151 d (by omega) Q ((a0 - 1)) x15 (ha0.resolve_left c16) hx15 s12 x S1 h) (by exact (ha0.resolve_left c16)) (by decide +kernel) (by decide +kernel) (by decide +kernel) (by decide +kernel) rfl (by (try simp only [ev_sum, ev_nv_cat]); first | done | rfl) ?_
            intro x18 s17 hx18
            show ev_w _ _ _ _ _ [.int (Int32.ofInt x18)] _ _ _ _
            refine ev_r_bipush (pc := 168) (k := 123) (by decide +kernel) (by decide +kernel) ?_
            refine ev_r_icmp (pc := 170) (q := .ne) (o := 7) (t := 177) (c := x18 ≠ 123) (by decide +kernel) (ev_k_ne hx18 (by decide)) (by decide +kernel) ?_ ?_
            · intro c19
              refine ev_r_iconst (pc := 177) (k := 0) (by decide +kernel) ?_
              exact ev_r_ireturn (pc := 178) (x := 0) (v := Int32.ofInt 0) (ty := .int) (by decide) (by decide +kernel) (by decide +kernel) rfl rfl
            · intro c19
              refine ev_r_iconst (pc := 173) (k := 3) (by decide +kernel) ?_
              refine ev_r_goto (pc := 174) (o := 4) (t := 178) (by decide +kernel) (by decide +kernel) ?_
              exact ev_r_ireturn (pc := 178) (x := 3) (v := Int32.ofInt 3) (ty := .int) (by decide) (by decide +kernel) (by decide +kernel) rfl rfl
    · intro c9
      refine ev_r_iload (pc := 81) (k := 4) (v := Int32.ofInt x7) (by decide +kernel) (by exact ev_lk_st1_self) ?_
      refine ev_r_bipush (pc := 83) (k := 123) (by decide +kernel) (by decide +kernel) ?_
      refine ev_r_jn (Q := fun K => ∀ (x20 : Int) (hx20 : ev_rng x20), ∀ (s23 : ev_St) (w21 : List (Nat × Value)), ev_lk w21 4 = some (.int (Int32.ofInt x7)) → ev_w none (ev_Mof 49) d 118 w21 [.int (Int32.ofInt x20)] s23 (K x20 s23) ev_eI ev_rng) ?_ ?_
      · intro x20 hx20 s23 w21 e22
        refine ev_r_istore (pc := 118) (k := 5) (by decide +kernel) (by decide +kernel) rfl ?_
        refine ev_r_iload (pc := 120) (k := 4) (v := Int32.ofInt x7) (by decide +kernel) (by exact (ev_lk_st1 e22 (by decide) rfl)) ?_
        refine ev_r_stat (pc := 122) (y := 120) (kind := 5) (mi := 208) (na := 1) (as := [.int (Int32.ofInt x7)]) (rest := []) (encc := ev_oI) (Q := ev_bl) (fun x S1 h => jt_208 d (by omega) Q x7 hx7 s23 x S1 h) (Or.inr (Or.inl rfl)) (by decide +kernel) (by decide +kernel) (by decide +kernel) (by decide +kernel) rfl (by (try simp only [ev_sum, ev_nv_cat]); first | done | rfl) ?_
        intro x25 s24 hx25
        replace hx25 := ev_bl_rng hx25
        show ev_w _ _ _ _ _ [.int (Int32.ofInt x25)] _ _ _ _
        refine ev_r_if (pc := 125) (q := .eq) (o := 7) (t := 132) (c := x25 = 0) (by decide +kernel) (ev_k_eq hx25 ev_rng0) (by decide +kernel) ?_ ?_
        · intro c26
          refine ev_r_iload (pc := 132) (k := 5) (v := Int32.ofInt x20) (by decide +kernel) (by exact ev_lk_st1_self) ?_
          refine ev_r_if (pc := 134) (q := .eq) (o := 7) (t := 141) (c := x20 = 0) (by decide +kernel) (ev_k_eq hx20 ev_rng0) (by decide +kernel) ?_ ?_
          · intro c27
            refine ev_r_iconst (pc := 141) (k := 0) (by decide +kernel) ?_
            exact ev_r_ireturn (pc := 142) (x := 0) (v := Int32.ofInt 0) (ty := .int) (by decide) (by decide +kernel) (by decide +kernel) rfl rfl
          · intro c27
            refine ev_r_iconst (pc := 137) (k := 4) (by decide +kernel) ?_
            refine ev_r_goto (pc := 138) (o := 4) (t := 142) (by decide +kernel) (by decide +kernel) ?_
            exact ev_r_ireturn (pc := 142) (x := 4) (v := Int32.ofInt 4) (ty := .int) (by decide) (by decide +kernel) (by decide +kernel) rfl rfl
        · intro c26
          refine ev_r_iconst (pc := 128) (k := 2) (by decide +kernel) ?_
          refine ev_r_goto (pc := 129) (o := 13) (t := 142) (by decide +kernel) (by decide +kernel) ?_
          exact ev_r_ireturn (pc := 142) (x := 2) (v := Int32.ofInt 2) (ty := .int) (by decide) (by decide +kernel) (by decide +kernel) rfl rfl
      · intro K118 hK118
        refine ev_r_jn (Q := fun K => ∀ (s30 : ev_St) (w28 : List (Nat × Value)), ev_lk w28 4 = some (.int (Int32.ofInt x7)) → ev_w none (ev_Mof 49) d 117 w28 [] s30 (K  s30) ev_eI ev_rng) ?_ ?_
        · intro  s30 w28 e29
          refine ev_r_iconst (pc := 117) (k := 0) (by decide +kernel) ?_
          exact hK118 0 (by decide) s30 _ (by exact e29)
        · intro K117 hK117
          refine ev_r_icmp (pc := 85) (q := .ne) (o := 32) (t := 117) (c := x7 ≠ 123) (by decide +kernel) (ev_k_ne hx7 (by decide)) (by decide +kernel) ?_ ?_
          · intro c31
            exact hK117  s6 _ (by exact ev_lk_st1_self)
          · intro c31
            refine ev_r_aload_n (pc := 88) (k := 0) (v := ev_nv a0) (ev_isR_nv _) (by decide +kernel) (by exact (ev_l1 (ev_l1 (by rfl) (by decide) (by decide)) (by decide) (by decide))) ?_
            refine ev_r_iload_n (pc := 89) (k := 1) (v := Int32.ofInt a1) (by decide +kernel) (by exact (ev_l1 (ev_l1 (by rfl) (by decide) (by decide)) (by decide) (by decide))) ?_
            refine ev_r_iconst (pc := 90) (k := 2) (by decide +kernel) ?_
            refine ev_r_iadd (pc := 91) (by decide +kernel) ?_
            intro x32 hx32
            refine ev_r_chk ?_
            intro c33
            refine ev_r_dr (r := a0) (fun v => [.int (Int32.ofInt x32), v]) c33 ?_
            refine ev_r_virt (pc := 92) (y := 109) (mi := 151) (na := 1) (k := (a0 - 1)) (as := [.int (Int32.ofInt x32)]) (rest := []) (encc := ev_oI) (Q := ev_rng) (fun x S1 h => jt_151 d (by omega) Q ((a0 - 1)) x32 (ha0.resolve_left c33) hx32 s6 x S1 h) (by exact (ha0.resolve_left c33)) (by decide +kernel) (by decide +kernel) (by decide +kernel) (by decide +kernel) rfl (by (try simp only [ev_sum, ev_nv_cat]); first | done | rfl) ?_
            intro x35 s34 hx35
            show ev_w _ _ _ _ _ [.int (Int32.ofInt x35)] _ _ _ _
            refine ev_r_stat (pc := 95) (y := 117) (kind := 5) (mi := 209) (na := 1) (as := [.int (Int32.ofInt x35)]) (rest := []) (encc := ev_oI) (Q := ev_bl) (fun x S1 h => jt_209 d (by omega) Q x35 hx35 s34 x S1 h) (Or.inr (Or.inl rfl)) (by decide +kernel) (by decide +kernel) (by decide +kernel) (by decide +kernel) rfl (by (try simp only [ev_sum, ev_nv_cat]); first | done | rfl) ?_
            intro x37 s36 hx37
            replace hx37 := ev_bl_rng hx37
            show ev_w _ _ _ _ _ [.int (Int32.ofInt x37)] _ _ _ _
            refine ev_r_if (pc := 98) (q := .eq) (o := 19) (t := 117) (c := x37 = 0) (by decide +kernel) (ev_k_eq hx37 ev_rng0) (by decide +kernel) ?_ ?_
            · intro c38
              exact hK117  s36 _ (by exact ev_lk_st1_self)
            · intro c38
              refine ev_r_aload_n (pc := 101) (k := 0) (v := ev_nv a0) (ev_isR_nv _) (by decide +kernel) (by exact (ev_l1 (ev_l1 (by rfl) (by decide) (by decide)) (by decide) (by decide))) ?_
              refine ev_r_iload_n (pc := 102) (k := 1) (v := Int32.ofInt a1) (by decide +kernel) (by exact (ev_l1 (ev_l1 (by rfl) (by decide) (by decide)) (by decide) (by decide))) ?_
              refine ev_r_iconst (pc := 103) (k := 3) (by decide +kernel) ?_
              refine ev_r_iadd (pc := 104) (by decide +kernel) ?_
              intro x39 hx39
              refine ev_r_chk ?_
              intro c40
              refine ev_r_dr (r := a0) (fun v => [.int (Int32.ofInt x39), v]) c40 ?_
              refine ev_r_virt (pc := 105) (y := 109) (mi := 151) (na := 1) (k := (a0 - 1)) (as := [.int (Int32.ofInt x39)]) (rest := []) (encc := ev_oI) (Q := ev_rng) (fun x S1 h => jt_151 d (by omega) Q ((a0 - 1)) x39 (ha0.resolve_left c40) hx39 s36 x S1 h) (by exact (ha0.resolve_left c40)) (by decide +kernel) (by decide +kernel) (by decide +kernel) (by decide +kernel) rfl (by (try simp only [ev_sum, ev_nv_cat]); first | done | rfl) ?_
              intro x42 s41 hx42
              show ev_w _ _ _ _ _ [.int (Int32.ofInt x42)] _ _ _ _
              refine ev_r_bipush (pc := 108) (k := 125) (by decide +kernel) (by decide +kernel) ?_
              refine ev_r_icmp (pc := 110) (q := .ne) (o := 7) (t := 117) (c := x42 ≠ 125) (by decide +kernel) (ev_k_ne hx42 (by decide)) (by decide +kernel) ?_ ?_
              · intro c43
                exact hK117  s41 _ (by exact ev_lk_st1_self)
              · intro c43
                refine ev_r_iconst (pc := 113) (k := 1) (by decide +kernel) ?_
                refine ev_r_goto (pc := 114) (o := 4) (t := 118) (by decide +kernel) (by decide +kernel) ?_
                exact hK118 1 (by decide) s41 _ (by exact ev_lk_st1_self)
  · intro c8
    refine ev_r_iload (pc := 21) (k := 4) (v := Int32.ofInt x7) (by decide +kernel) (by exact ev_lk_st1_self) ?_
    refine ev_r_bipush (pc := 23) (k := 85) (by decide +kernel) (by decide +kernel) ?_
    refine ev_r_jn (Q := fun K => ∀ (x44 : Int) (hx44 : ev_rng x44), ∀ (s47 : ev_St) (w45 : List (Nat × Value)), ev_lk w45 4 = some (.int (Int32.ofInt x7)) → ev_w none (ev_Mof 49) d 54 w45 [.int (Int32.ofInt x44)] s47 (K x44 s47) ev_eI ev_rng) ?_ ?_
    · intro x44 hx44 s47 w45 e46
      refine ev_r_istore (pc := 54) (k := 5) (by decide +kernel) (by decide +kernel) rfl ?_
      refine ev_r_iload (pc := 56) (k := 5) (v := Int32.ofInt x44) (by decide +kernel) (by exact ev_lk_st1_self) ?_
      refine ev_r_if (pc := 58) (q := .ne) (o := 11) (t := 69) (c := x44 ≠ 0) (by decide +kernel) (ev_k_ne hx44 ev_rng0) (by decide +kernel) ?_ ?_
      · intro c48
        refine ev_r_iconst (pc := 69) (k := 2) (by decide +kernel) ?_
        refine ev_r_goto (pc := 70) (o := 4) (t := 74) (by decide +kernel) (by decide +kernel) ?_
        exact ev_r_ireturn (pc := 74) (x := 2) (v := Int32.ofInt 2) (ty := .int) (by decide) (by decide +kernel) (by decide +kernel) rfl rfl
      · intro c48
        refine ev_r_iload (pc := 61) (k := 4) (v := Int32.ofInt x7) (by decide +kernel) (by exact (ev_lk_st1 e46 (by decide) rfl)) ?_
        refine ev_r_stat (pc := 63) (y := 113) (kind := 5) (mi := 211) (na := 1) (as := [.int (Int32.ofInt x7)]) (rest := []) (encc := ev_oI) (Q := ev_bl) (fun x S1 h => jt_211 d (by omega) Q x7 hx7 s47 x S1 h) (Or.inr (Or.inl rfl)) (by decide +kernel) (by decide +kernel) (by decide +kernel) (by decide +kernel) rfl (by (try simp only [ev_sum, ev_nv_cat]); first | done | rfl) ?_
        intro x50 s49 hx50
        replace hx50 := ev_bl_rng hx50
        show ev_w _ _ _ _ _ [.int (Int32.ofInt x50)] _ _ _ _
        refine ev_r_if (pc := 66) (q := .eq) (o := 7) (t := 73) (c := x50 = 0) (by decide +kernel) (ev_k_eq hx50 ev_rng0) (by decide +kernel) ?_ ?_
        · intro c51
          refine ev_r_iconst (pc := 73) (k := 0) (by decide +kernel) ?_
          exact ev_r_ireturn (pc := 74) (x := 0) (v := Int32.ofInt 0) (ty := .int) (by decide) (by decide +kernel) (by decide +kernel) rfl rfl
        · intro c51
          refine ev_r_iconst (pc := 69) (k := 2) (by decide +kernel) ?_
          refine ev_r_goto (pc := 70) (o := 4) (t := 74) (by decide +kernel) (by decide +kernel) ?_
          exact ev_r_ireturn (pc := 74) (x := 2) (v := Int32.ofInt 2) (ty := .int) (by decide) (by decide +kernel) (by decide +kernel) rfl rfl
    · intro K54 hK54
      refine ev_r_jn (Q := fun K => ∀ (s54 : ev_St) (w52 : List (Nat × Value)), ev_lk w52 4 = some (.int (Int32.ofInt x7)) → ev_w none (ev_Mof 49) d 49 w52 [] s54 (K  s54) ev_eI ev_rng) ?_ ?_
      · intro  s54 w52 e53
        refine ev_r_iconst (pc := 49) (k := 1) (by decide +kernel) ?_
        refine ev_r_goto (pc := 50) (o := 4) (t := 54) (by decide +kernel) (by decide +kernel) ?_
        exact hK54 1 (by decide) s54 _ (by exact e53)
      · intro K49 hK49
        refine ev_r_icmp (pc := 25) (q := .eq) (o := 24) (t := 49) (c := x7 = 85) (by decide +kernel) (ev_k_eq hx7 (by decide)) (by decide +kernel) ?_ ?_
        · intro c55
          exact hK49  s6 _ (by exact ev_lk_st1_self)
        · intro c55
          refine ev_r_iload (pc := 28) (k := 4) (v := Int32.ofInt x7) (by decide +kernel) (by exact ev_lk_st1_self) ?_
          refine ev_r_bipush (pc := 30) (k := 76) (by decide +kernel) (by decide +kernel) ?_
          refine ev_r_icmp (pc := 32) (q := .eq) (o := 17) (t := 49) (c := x7 = 76) (by decide +kernel) (ev_k_eq hx7 (by decide)) (by decide +kernel) ?_ ?_
          · intro c56
            exact hK49  s6 _ (by exact ev_lk_st1_self)
          · intro c56
            refine ev_r_iload (pc := 35) (k := 4) (v := Int32.ofInt x7) (by decide +kernel) (by exact ev_lk_st1_self) ?_
            refine ev_r_bipush (pc := 37) (k := 69) (by decide +kernel) (by decide +kernel) ?_
            refine ev_r_icmp (pc := 39) (q := .eq) (o := 10) (t := 49) (c := x7 = 69) (by decide +kernel) (ev_k_eq hx7 (by decide)) (by decide +kernel) ?_ ?_
            · intro c57
              exact hK49  s6 _ (by exact ev_lk_st1_self)
            · intro c57
              refine ev_r_iload (pc := 42) (k := 4) (v := Int32.ofInt x7) (by decide +kernel) (by exact ev_lk_st1_self) ?_
              refine ev_r_bipush (pc := 44) (k := 110) (by decide +kernel) (by decide +kernel) ?_
              refine ev_r_icmp (pc := 46) (q := .ne) (o := 7) (t := 53) (c := x7 ≠ 110) (by decide +kernel) (ev_k_ne hx7 (by decide)) (by decide +kernel) ?_ ?_
              · intro c58
                refine ev_r_iconst (pc := 53) (k := 0) (by decide +kernel) ?_
                exact hK54 0 (by decide) s6 _ (by exact ev_lk_st1_self)
              · intro c58
                exact hK49  s6 _ (by exact ev_lk_st1_self)
/-- MendBench$Search.spanOf(I)I -/
def jm_118 (Q : Nat) (a0 : Int) (S : ev_St) : Option ((Int) × ev_St) := if a0 ≠ 0 then (ev_bd (jm_129 Q a0 S) fun x3 s2 => if 0 ≤ x3 then (ev_ck (x3 + 2) fun x5 => ev_if ((0 : Int) ≤ x5 ∧ x5 < (ev_aln 282 : Int)) (ev_b (s2.1 282 (Int.toNat x5)) fun x6 => ev_ck (1000 * x6) fun x7 => ev_ck (x3 + 3) fun x8 => ev_if ((0 : Int) ≤ x8 ∧ x8 < (ev_aln 282 : Int)) (ev_b (s2.1 282 (Int.toNat x8)) fun x9 => ev_ck (x7 + x9) fun x10 => some (x10, s2)))) else (some ((-3), s2))) else (ev_b (S.1 281 11) fun x11 => ev_ck (1000 * x11) fun x12 => ev_b (S.1 281 12) fun x13 => ev_ck (x12 + x13) fun x14 => some (x14, S))
theorem jt_118 (d : Nat) (hd : 3 ≤ d) (Q : Nat) (a0 : Int) (ha0 : ev_rng a0) (S : ev_St) (x : Int) (S' : ev_St) (hJ : jm_118 Q a0 S = some (x, S')) : ev_Ref d 118 [.ref 281, .int (Int32.ofInt a0)] S (ev_eI x) S' (ev_rng x) := by
  obtain ⟨d, rfl⟩ : ∃ e, d = e + 1 := ⟨d - 1, by omega⟩
  refine ev_ref_of (P := ev_rng) (lv := [(0, .ref 281), (1, .int (Int32.ofInt a0))]) (by decide +kernel) (by (try simp only [ev_sum, ev_nv_cat]); first | done | rfl) (by (try simp only [lv_args, ev_nv_cat]); first | done | rfl) ?_ x S' hJ
  unfold jm_118
  refine ev_r_iload_n (pc := 0) (k := 1) (v := Int32.ofInt a0) (by decide +kernel) (by rfl) ?_
  refine ev_r_if (pc := 1) (q := .ne) (o := 17) (t := 18) (c := a0 ≠ 0) (by decide +kernel) (ev_k_ne ha0 ev_rng0) (by decide +kernel) ?_ ?_
  · intro c1
    refine ev_r_aload_n (pc := 18) (k := 0) (v := .ref 281) trivial (by decide +kernel) (by rfl) ?_
    refine ev_r_iload_n (pc := 19) (k := 1) (v := Int32.ofInt a0) (by decide +kernel) (by rfl) ?_
    refine ev_r_virt (pc := 20) (y := 52) (mi := 129) (na := 1) (k := 281) (as := [.int (Int32.ofInt a0)]) (rest := []) (encc := ev_oI) (Q := ev_rng) (fun x S1 h => jt_129 d (by omega) Q a0 ha0 S x S1 h) (by exact ev_ob_281) (by decide +kernel) (by decide +kernel) (by decide +kernel) (by decide +kernel) rfl (by (try simp only [ev_sum, ev_nv_cat]); first | done | rfl) ?_
    intro x3 s2 hx3
    show ev_w _ _ _ _ _ [.int (Int32.ofInt x3)] _ _ _ _
    refine ev_r_istore_n (pc := 23) (k := 2) (by decide +kernel) (by decide +kernel) rfl ?_
    refine ev_r_iload_n (pc := 24) (k := 2) (v := Int32.ofInt x3) (by decide +kernel) (by exact ev_lk_st1_self) ?_
    refine ev_r_if (pc := 25) (q := .ge) (o := 8) (t := 33) (c := 0 ≤ x3) (by decide +kernel) (ev_k_ge hx3 ev_rng0) (by decide +kernel) ?_ ?_
    · intro c4
      refine ev_r_sipush (pc := 33) (k := 1000) (by decide +kernel) (by decide +kernel) ?_
      refine ev_r_aload_n (pc := 36) (k := 0) (v := .ref 281) trivial (by decide +kernel) (by exact (ev_l1 (by rfl) (by decide) (by decide))) ?_
      refine ev_r_getC (pc := 37) (y := 14) (ci := 8) (f := 6) (fin := 1) (k' := 282) (by decide +kernel) (by decide +kernel) (by exact ev_ob_281) rfl rfl ?_
      refine ev_r_iload_n (pc := 40) (k := 2) (v := Int32.ofInt x3) (by decide +kernel) (by exact ev_lk_st1_self) ?_
      refine ev_r_iconst (pc := 41) (k := 2) (by decide +kernel) ?_
      refine ev_r_iadd (pc := 42) (by decide +kernel) ?_
      intro x5 hx5
      refine ev_r_iald (pc := 43) hx5 (by decide +kernel) (by exact ev_ab_282) ?_
      intro x6 hx6
      refine ev_r_imul (pc := 44) (by decide +kernel) ?_
      intro x7 hx7
      refine ev_r_aload_n (pc := 45) (k := 0) (v := .ref 281) trivial (by decide +kernel) (by exact (ev_l1 (by rfl) (by decide) (by decide))) ?_
      refine ev_r_getC (pc := 46) (y := 14) (ci := 8) (f := 6) (fin := 1) (k' := 282) (by decide +kernel) (by decide +kernel) (by exact ev_ob_281) rfl rfl ?_
      refine ev_r_iload_n (pc := 49) (k := 2) (v := Int32.ofInt x3) (by decide +kernel) (by exact ev_lk_st1_self) ?_
      refine ev_r_iconst (pc := 50) (k := 3) (by decide +kernel) ?_
      refine ev_r_iadd (pc := 51) (by decide +kernel) ?_
      intro x8 hx8
      refine ev_r_iald (pc := 52) hx8 (by decide +kernel) (by exact ev_ab_282) ?_
      intro x9 hx9
      refine ev_r_iadd (pc := 53) (by decide +kernel) ?_
      intro x10 hx10
      exact ev_r_ireturn (pc := 54) (x := x10) (v := Int32.ofInt x10) (ty := .int) hx10 (by decide +kernel) (by decide +kernel) rfl rfl
    · intro c4
      refine ev_r_bipush (pc := 28) (k := -3) (by decide +kernel) (by decide +kernel) ?_
      refine ev_r_goto (pc := 30) (o := 24) (t := 54) (by decide +kernel) (by decide +kernel) ?_
      exact ev_r_ireturn (pc := 54) (x := (-3)) (v := Int32.ofInt ((-3))) (ty := .int) (by decide) (by decide +kernel) (by decide +kernel) rfl rfl
  · intro c1
    refine ev_r_sipush (pc := 4) (k := 1000) (by decide +kernel) (by decide +kernel) ?_
    refine ev_r_aload_n (pc := 7) (k := 0) (v := .ref 281) trivial (by decide +kernel) (by rfl) ?_
    refine ev_r_getI (pc := 8) (y := 43) (ci := 8) (f := 11) (fin := 0) (by decide +kernel) (by decide +kernel) (by exact ev_ob_281) rfl ?_
    intro x11 hx11
    refine ev_r_imul (pc := 11) (by decide +kernel) ?_
    intro x12 hx12
    refine ev_r_aload_n (pc := 12) (k := 0) (v := .ref 281) trivial (by decide +kernel) (by rfl) ?_
    refine ev_r_getI (pc := 13) (y := 46) (ci := 8) (f := 12) (fin := 0) (by decide +kernel) (by decide +kernel) (by exact ev_ob_281) rfl ?_
    intro x13 hx13
    refine ev_r_iadd (pc := 16) (by decide +kernel) ?_
    intro x14 hx14
    exact ev_r_ireturn (pc := 17) (x := x14) (v := Int32.ofInt x14) (ty := .int) hx14 (by decide +kernel) (by decide +kernel) rfl rfl
/-- MendBench.raised(I)I -/
def jm_213 (Q : Nat) (a0 : Int) (S : ev_St) : Option ((Int) × ev_St) := ev_bd (jm_209 Q a0 S) fun x2 s1 => if x2 = 0 then (some (a0, s1)) else (ev_ck (a0 - 32) fun x4 => some (x4, s1))
theorem jt_213 (d : Nat) (hd : 2 ≤ d) (Q : Nat) (a0 : Int) (ha0 : ev_rng a0) (S : ev_St) (x : Int) (S' : ev_St) (hJ : jm_213 Q a0 S = some (x, S')) : ev_Ref d 213 [.int (Int32.ofInt a0)] S (ev_eI x) S' (ev_rng x) := by
  obtain ⟨d, rfl⟩ : ∃ e, d = e + 1 := ⟨d - 1, by omega⟩
  refine ev_ref_of (P := ev_rng) (lv := [(0, .int (Int32.ofInt a0))]) (by decide +kernel) (by (try simp only [ev_sum, ev_nv_cat]); first | done | rfl) (by (try simp only [lv_args, ev_nv_cat]); first | done | rfl) ?_ x S' hJ
  unfold jm_213
  refine ev_r_iload_n (pc := 0) (k := 0) (v := Int32.ofInt a0) (by decide +kernel) (by rfl) ?_
  refine ev_r_stat (pc := 1) (y := 117) (kind := 2) (mi := 209) (na := 1) (as := [.int (Int32.ofInt a0)]) (rest := []) (encc := ev_oI) (Q := ev_bl) (fun x S1 h => jt_209 d (by omega) Q a0 ha0 S x S1 h) (Or.inl rfl) (by decide +kernel) (by decide +kernel) (by decide +kernel) (by decide +kernel) rfl (by (try simp only [ev_sum, ev_nv_cat]); first | done | rfl) ?_
  intro x2 s1 hx2
  replace hx2 := ev_bl_rng hx2
  show ev_w _ _ _ _ _ [.int (Int32.ofInt x2)] _ _ _ _
  refine ev_r_if (pc := 4) (q := .eq) (o := 10) (t := 14) (c := x2 = 0) (by decide +kernel) (ev_k_eq hx2 ev_rng0) (by decide +kernel) ?_ ?_
  · intro c3
    refine ev_r_iload_n (pc := 14) (k := 0) (v := Int32.ofInt a0) (by decide +kernel) (by rfl) ?_
    exact ev_r_ireturn (pc := 15) (x := a0) (v := Int32.ofInt a0) (ty := .int) ha0 (by decide +kernel) (by decide +kernel) rfl rfl
  · intro c3
    refine ev_r_iload_n (pc := 7) (k := 0) (v := Int32.ofInt a0) (by decide +kernel) (by rfl) ?_
    refine ev_r_bipush (pc := 8) (k := 32) (by decide +kernel) (by decide +kernel) ?_
    refine ev_r_isub (pc := 10) (by decide +kernel) ?_
    intro x4 hx4
    refine ev_r_goto (pc := 11) (o := 4) (t := 15) (by decide +kernel) (by decide +kernel) ?_
    exact ev_r_ireturn (pc := 15) (x := x4) (v := Int32.ofInt x4) (ty := .int) hx4 (by decide +kernel) (by decide +kernel) rfl rfl
/-- MendBench$Mender.putSign(I)V -/
def jm_54 (Q : Nat) (a0 : Int) (S : ev_St) : Option ((Unit) × ev_St) := ev_b (S.1 269 11) fun x1 => ev_jn (fun (x3 : Int) (r2 : Nat) (s5 : ev_St) => ev_bd (jm_152 Q r2 x3 s5) fun _ s6 => some ((), s6)) fun K35 => if x1 ≠ 1 then (ev_b (S.1 269 11) fun x8 => if x8 ≠ 2 then (K35 a0 272 S) else (ev_bd (jm_212 Q a0 S) fun x11 s10 => K35 x11 272 s10)) else (ev_bd (jm_213 Q a0 S) fun x13 s12 => K35 x13 272 s12)
theorem jt_54 (d : Nat) (hd : 3 ≤ d) (Q : Nat) (a0 : Int) (ha0 : ev_rng a0) (S : ev_St) (x : Unit) (S' : ev_St) (hJ : jm_54 Q a0 S = some (x, S')) : ev_Ref d 54 [.ref 269, .int (Int32.ofInt a0)] S (ev_eU x) S' (ev_PU x) := by
  obtain ⟨d, rfl⟩ : ∃ e, d = e + 1 := ⟨d - 1, by omega⟩
  refine ev_ref_of (P := ev_PU) (lv := [(0, .ref 269), (1, .int (Int32.ofInt a0))]) (by decide +kernel) (by (try simp only [ev_sum, ev_nv_cat]); first | done | rfl) (by (try simp only [lv_args, ev_nv_cat]); first | done | rfl) ?_ x S' hJ
  unfold jm_54
  refine ev_r_aload_n (pc := 0) (k := 0) (v := .ref 269) trivial (by decide +kernel) (by rfl) ?_
  refine ev_r_getC (pc := 1) (y := 18) (ci := 3) (f := 1) (fin := 1) (k' := 272) (by decide +kernel) (by decide +kernel) (by exact ev_ob_269) rfl rfl ?_
  refine ev_r_aload_n (pc := 4) (k := 0) (v := .ref 269) trivial (by decide +kernel) (by rfl) ?_
  refine ev_r_getI (pc := 5) (y := 123) (ci := 3) (f := 11) (fin := 0) (by decide +kernel) (by decide +kernel) (by exact ev_ob_269) rfl ?_
  intro x1 hx1
  refine ev_r_iconst (pc := 8) (k := 1) (by decide +kernel) ?_
  refine ev_r_jn (Q := fun K => ∀ (x3 : Int) (hx3 : ev_rng x3), ∀ (r2 : Nat) (hr2 : ev_isOb r2 10 = true), ∀ (s5 : ev_St) (w4 : List (Nat × Value)), ev_w none (ev_Mof 54) d 35 w4 [.int (Int32.ofInt x3), .ref r2] s5 (K x3 r2 s5) ev_eU ev_PU) ?_ ?_
  · intro x3 hx3 r2 hr2 s5 w4 
    refine ev_r_virt (pc := 35) (y := 159) (mi := 152) (na := 1) (k := r2) (as := [.int (Int32.ofInt x3)]) (rest := []) (encc := ev_oU) (Q := ev_PU) (fun x S1 h => jt_152 d (by omega) Q r2 x3 hr2 hx3 s5 x S1 h) (by exact hr2) (by decide +kernel) (by decide +kernel) (by decide +kernel) (by decide +kernel) rfl (by (try simp only [ev_sum, ev_nv_cat]); first | done | rfl) ?_
    intro _ s6 _
    show ev_w _ _ _ _ _ [] _ _ _ _
    exact ev_r_return (pc := 38) (x := ()) trivial (by decide +kernel) (by decide +kernel) rfl
  · intro K35 hK35
    refine ev_r_icmp (pc := 9) (q := .ne) (o := 10) (t := 19) (c := x1 ≠ 1) (by decide +kernel) (ev_k_ne hx1 (by decide)) (by decide +kernel) ?_ ?_
    · intro c7
      refine ev_r_aload_n (pc := 19) (k := 0) (v := .ref 269) trivial (by decide +kernel) (by rfl) ?_
      refine ev_r_getI (pc := 20) (y := 123) (ci := 3) (f := 11) (fin := 0) (by decide +kernel) (by decide +kernel) (by exact ev_ob_269) rfl ?_
      intro x8 hx8
      refine ev_r_iconst (pc := 23) (k := 2) (by decide +kernel) ?_
      refine ev_r_icmp (pc := 24) (q := .ne) (o := 10) (t := 34) (c := x8 ≠ 2) (by decide +kernel) (ev_k_ne hx8 (by decide)) (by decide +kernel) ?_ ?_
      · intro c9
        refine ev_r_iload_n (pc := 34) (k := 1) (v := Int32.ofInt a0) (by decide +kernel) (by rfl) ?_
        exact hK35 a0 ha0 272 ev_ob_272 S _ 
      · intro c9
        refine ev_r_iload_n (pc := 27) (k := 1) (v := Int32.ofInt a0) (by decide +kernel) (by rfl) ?_
        refine ev_r_stat (pc := 28) (y := 156) (kind := 5) (mi := 212) (na := 1) (as := [.int (Int32.ofInt a0)]) (rest := [.ref 272]) (encc := ev_oI) (Q := ev_rng) (fun x S1 h => jt_212 d (by omega) Q a0 ha0 S x S1 h) (Or.inr (Or.inl rfl)) (by decide +kernel) (by decide +kernel) (by decide +kernel) (by decide +kernel) rfl (by (try simp only [ev_sum, ev_nv_cat]); first | done | rfl) ?_
        intro x11 s10 hx11
        show ev_w _ _ _ _ _ [.int (Int32.ofInt x11), .ref 272] _ _ _ _
        refine ev_r_goto (pc := 31) (o := 4) (t := 35) (by decide +kernel) (by decide +kernel) ?_
        exact hK35 x11 hx11 272 ev_ob_272 s10 _ 
    · intro c7
      refine ev_r_iload_n (pc := 12) (k := 1) (v := Int32.ofInt a0) (by decide +kernel) (by rfl) ?_
      refine ev_r_stat (pc := 13) (y := 153) (kind := 5) (mi := 213) (na := 1) (as := [.int (Int32.ofInt a0)]) (rest := [.ref 272]) (encc := ev_oI) (Q := ev_rng) (fun x S1 h => jt_213 d (by omega) Q a0 ha0 S x S1 h) (Or.inr (Or.inl rfl)) (by decide +kernel) (by decide +kernel) (by decide +kernel) (by decide +kernel) rfl (by (try simp only [ev_sum, ev_nv_cat]); first | done | rfl) ?_
      intro x13 s12 hx13
      show ev_w _ _ _ _ _ [.int (Int32.ofInt x13), .ref 272] _ _ _ _
      refine ev_r_goto (pc := 16) (o := 19) (t := 35) (by decide +kernel) (by decide +kernel) ?_
      exact hK35 x13 hx13 272 ev_ob_272 s12 _ 
/-- MendBench$Mender.putSlashed(II)V -/
def jm_52 (Q : Nat) (a0 : Int) (a1 : Int) (S : ev_St) : Option ((Unit) × ev_St) := if a0 = 35 then (ev_jn (fun  (s5 : ev_St) => ev_if (10 ≠ 0) (ev_b (ev_irem a1 10) fun x6 => ev_ck (48 + x6) fun x7 => ev_bd (jm_54 Q x7 s5) fun _ s8 => some ((), s8))) fun K105 => if a1 < 10 then (K105  S) else (ev_if (10 ≠ 0) (ev_b (ev_idiv a1 10) fun x10 => ev_if (10 ≠ 0) (ev_b (ev_irem x10 10) fun x11 => ev_ck (48 + x11) fun x12 => ev_bd (jm_54 Q x12 S) fun _ s13 => K105  s13)))) else (if a0 = 69 then (ev_b (ev_pI S 269 11 0) fun s15 => some ((), s15)) else (if a0 = 76 then (ev_b (ev_pI S 269 11 2) fun s17 => some ((), s17)) else (if a0 = 85 then (ev_b (ev_pI S 269 11 1) fun s19 => some ((), s19)) else (if a0 = 110 then (ev_bd (jm_54 Q 10 S) fun _ s21 => some ((), s21)) else (ev_bd (jm_54 Q a0 S) fun _ s22 => some ((), s22))))))
theorem jt_52 (d : Nat) (hd : 4 ≤ d) (Q : Nat) (a0 : Int) (a1 : Int) (ha0 : ev_rng a0) (ha1 : ev_rng a1) (S : ev_St) (x : Unit) (S' : ev_St) (hJ : jm_52 Q a0 a1 S = some (x, S')) : ev_Ref d 52 [.ref 269, .int (Int32.ofInt a0), .int (Int32.ofInt a1)] S (ev_eU x) S' (ev_PU x) := by
  obtain ⟨d, rfl⟩ : ∃ e, d = e + 1 := ⟨d - 1, by omega⟩
  refine ev_ref_of (P := ev_PU) (lv := [(0, .ref 269), (1, .int (Int32.ofInt a0)), (2, .int (Int32.ofInt a1))]) (by decide +kernel) (by (try simp only [ev_sum, ev_nv_cat]); first | done | rfl) (by (try simp only [lv_args, ev_nv_cat]); first | done | rfl) ?_ x S' hJ
  unfold jm_52
  refine ev_r_iload_n (pc := 0) (k := 1) (v := Int32.ofInt a0) (by decide +kernel) (by rfl) ?_
  refine ev_r_ite ?_ ?_
  · intro c1
    refine ev_r_sw (pc := 1) (i := (.lookupswitch 118 #[(35, 84), (69, 67), (76, 59), (85, 51), (110, 75)])) (len := 51) (pc' := 85) (by decide +kernel) (by rw [c1]; rw [ev_pure_lsw]; exact ev_lsw_c (o := 84) (by decide) (by decide +kernel) (by decide +kernel) (by decide +kernel)) ?_
    refine ev_r_iload_n (pc := 85) (k := 2) (v := Int32.ofInt a1) (by decide +kernel) (by rfl) ?_
    refine ev_r_bipush (pc := 86) (k := 10) (by decide +kernel) (by decide +kernel) ?_
    refine ev_r_jn (Q := fun K => ∀ (s5 : ev_St) (w2 : List (Nat × Value)), ev_lk w2 0 = some (.ref 269) → ev_lk w2 2 = some (.int (Int32.ofInt a1)) → ev_w none (ev_Mof 52) d 105 w2 [] s5 (K  s5) ev_eU ev_PU) ?_ ?_
    · intro  s5 w2 e3 e4
      refine ev_r_aload_n (pc := 105) (k := 0) (v := .ref 269) trivial (by decide +kernel) (by exact e3) ?_
      refine ev_r_bipush (pc := 106) (k := 48) (by decide +kernel) (by decide +kernel) ?_
      refine ev_r_iload_n (pc := 108) (k := 2) (v := Int32.ofInt a1) (by decide +kernel) (by exact e4) ?_
      refine ev_r_bipush (pc := 109) (k := 10) (by decide +kernel) (by decide +kernel) ?_
      refine ev_r_irem (pc := 111) (by decide) (by decide +kernel) ?_
      intro x6 hx6
      refine ev_r_iadd (pc := 112) (by decide +kernel) ?_
      intro x7 hx7
      refine ev_r_virt (pc := 113) (y := 147) (mi := 54) (na := 1) (k := 269) (as := [.int (Int32.ofInt x7)]) (rest := []) (encc := ev_oU) (Q := ev_PU) (fun x S1 h => jt_54 d (by omega) Q x7 hx7 s5 x S1 h) (by exact ev_ob_269) (by decide +kernel) (by decide +kernel) (by decide +kernel) (by decide +kernel) rfl (by (try simp only [ev_sum, ev_nv_cat]); first | done | rfl) ?_
      intro _ s8 _
      show ev_w _ _ _ _ _ [] _ _ _ _
      refine ev_r_goto (pc := 116) (o := 8) (t := 124) (by decide +kernel) (by decide +kernel) ?_
      exact ev_r_return (pc := 124) (x := ()) trivial (by decide +kernel) (by decide +kernel) rfl
    · intro K105 hK105
      refine ev_r_icmp (pc := 88) (q := .lt) (o := 17) (t := 105) (c := a1 < 10) (by decide +kernel) (ev_k_lt ha1 (by decide)) (by decide +kernel) ?_ ?_
      · intro c9
        exact hK105  S _ (by rfl) (by rfl)
      · intro c9
        refine ev_r_aload_n (pc := 91) (k := 0) (v := .ref 269) trivial (by decide +kernel) (by rfl) ?_
        refine ev_r_bipush (pc := 92) (k := 48) (by decide +kernel) (by decide +kernel) ?_
        refine ev_r_iload_n (pc := 94) (k := 2) (v := Int32.ofInt a1) (by decide +kernel) (by rfl) ?_
        refine ev_r_bipush (pc := 95) (k := 10) (by decide +kernel) (by decide +kernel) ?_
        refine ev_r_idiv (pc := 97) (by decide) (by decide +kernel) ?_
        intro x10 hx10
        refine ev_r_bipush (pc := 98) (k := 10) (by decide +kernel) (by decide +kernel) ?_
        refine ev_r_irem (pc := 100) (by decide) (by decide +kernel) ?_
        intro x11 hx11
        refine ev_r_iadd (pc := 101) (by decide +kernel) ?_
        intro x12 hx12
        refine ev_r_virt (pc := 102) (y := 147) (mi := 54) (na := 1) (k := 269) (as := [.int (Int32.ofInt x12)]) (rest := []) (encc := ev_oU) (Q := ev_PU) (fun x S1 h => jt_54 d (by omega) Q x12 hx12 S x S1 h) (by exact ev_ob_269) (by decide +kernel) (by decide +kernel) (by decide +kernel) (by decide +kernel) rfl (by (try simp only [ev_sum, ev_nv_cat]); first | done | rfl) ?_
        intro _ s13 _
        show ev_w _ _ _ _ _ [] _ _ _ _
        exact hK105  s13 _ (by rfl) (by rfl)
  · intro c1
    refine ev_r_ite ?_ ?_
    · intro c14
      refine ev_r_sw (pc := 1) (i := (.lookupswitch 118 #[(35, 84), (69, 67), (76, 59), (85, 51), (110, 75)])) (len := 51) (pc' := 68) (by decide +kernel) (by rw [c14]; rw [ev_pure_lsw]; exact ev_lsw_c (o := 67) (by decide) (by decide +kernel) (by decide +kernel) (by decide +kernel)) ?_
      refine ev_r_aload_n (pc := 68) (k := 0) (v := .ref 269) trivial (by decide +kernel) (by rfl) ?_
      refine ev_r_iconst (pc := 69) (k := 0) (by decide +kernel) ?_
      refine ev_r_putI (pc := 70) (y := 123) (ci := 3) (f := 11) (by decide) (by decide +kernel) (by decide +kernel) (by exact ev_ob_269) rfl rfl ?_
      intro s15
      refine ev_r_goto (pc := 73) (o := 51) (t := 124) (by decide +kernel) (by decide +kernel) ?_
      exact ev_r_return (pc := 124) (x := ()) trivial (by decide +kernel) (by decide +kernel) rfl
    · intro c14
      refine ev_r_ite ?_ ?_
      · intro c16
        refine ev_r_sw (pc := 1) (i := (.lookupswitch 118 #[(35, 84), (69, 67), (76, 59), (85, 51), (110, 75)])) (len := 51) (pc' := 60) (by decide +kernel) (by rw [c16]; rw [ev_pure_lsw]; exact ev_lsw_c (o := 59) (by decide) (by decide +kernel) (by decide +kernel) (by decide +kernel)) ?_
        refine ev_r_aload_n (pc := 60) (k := 0) (v := .ref 269) trivial (by decide +kernel) (by rfl) ?_
        refine ev_r_iconst (pc := 61) (k := 2) (by decide +kernel) ?_
        refine ev_r_putI (pc := 62) (y := 123) (ci := 3) (f := 11) (by decide) (by decide +kernel) (by decide +kernel) (by exact ev_ob_269) rfl rfl ?_
        intro s17
        refine ev_r_goto (pc := 65) (o := 59) (t := 124) (by decide +kernel) (by decide +kernel) ?_
        exact ev_r_return (pc := 124) (x := ()) trivial (by decide +kernel) (by decide +kernel) rfl
      · intro c16
        refine ev_r_ite ?_ ?_
        · intro c18
          refine ev_r_sw (pc := 1) (i := (.lookupswitch 118 #[(35, 84), (69, 67), (76, 59), (85, 51), (110, 75)])) (len := 51) (pc' := 52) (by decide +kernel) (by rw [c18]; rw [ev_pure_lsw]; exact ev_lsw_c (o := 51) (by decide) (by decide +kernel) (by decide +kernel) (by decide +kernel)) ?_
          refine ev_r_aload_n (pc := 52) (k := 0) (v := .ref 269) trivial (by decide +kernel) (by rfl) ?_
          refine ev_r_iconst (pc := 53) (k := 1) (by decide +kernel) ?_
          refine ev_r_putI (pc := 54) (y := 123) (ci := 3) (f := 11) (by decide) (by decide +kernel) (by decide +kernel) (by exact ev_ob_269) rfl rfl ?_
          intro s19
          refine ev_r_goto (pc := 57) (o := 67) (t := 124) (by decide +kernel) (by decide +kernel) ?_
          exact ev_r_return (pc := 124) (x := ()) trivial (by decide +kernel) (by decide +kernel) rfl
        · intro c18
          refine ev_r_ite ?_ ?_
          · intro c20
            refine ev_r_sw (pc := 1) (i := (.lookupswitch 118 #[(35, 84), (69, 67), (76, 59), (85, 51), (110, 75)])) (len := 51) (pc' := 76) (by decide +kernel) (by rw [c20]; rw [ev_pure_lsw]; exact ev_lsw_c (o := 75) (by decide) (by decide +kernel) (by decide +kernel) (by decide +kernel)) ?_
            refine ev_r_aload_n (pc := 76) (k := 0) (v := .ref 269) trivial (by decide +kernel) (by rfl) ?_
            refine ev_r_bipush (pc := 77) (k := 10) (by decide +kernel) (by decide +kernel) ?_
            refine ev_r_virt (pc := 79) (y := 147) (mi := 54) (na := 1) (k := 269) (as := [.int (Int32.ofInt 10)]) (rest := []) (encc := ev_oU) (Q := ev_PU) (fun x S1 h => jt_54 d (by omega) Q 10 (by decide) S x S1 h) (by exact ev_ob_269) (by decide +kernel) (by decide +kernel) (by decide +kernel) (by decide +kernel) rfl (by (try simp only [ev_sum, ev_nv_cat]); first | done | rfl) ?_
            intro _ s21 _
            show ev_w _ _ _ _ _ [] _ _ _ _
            refine ev_r_goto (pc := 82) (o := 42) (t := 124) (by decide +kernel) (by decide +kernel) ?_
            exact ev_r_return (pc := 124) (x := ()) trivial (by decide +kernel) (by decide +kernel) rfl
          · intro c20
            refine ev_r_sw (pc := 1) (i := (.lookupswitch 118 #[(35, 84), (69, 67), (76, 59), (85, 51), (110, 75)])) (len := 51) (pc' := 119) (by decide +kernel) (by rw [ev_pure_lsw]; exact ev_lsw_c (o := 118) ha0 (by decide +kernel) (by show Op.lookupswitch.offset [(35, 84), (69, 67), (76, 59), (85, 51), (110, 75)] 118 a0 = 118; rw [Op.lookupswitch.offset_cons, if_neg (by omega), Op.lookupswitch.offset_cons, if_neg (by omega), Op.lookupswitch.offset_cons, if_neg (by omega), Op.lookupswitch.offset_cons, if_neg (by omega), Op.lookupswitch.offset_cons, if_neg (by omega), Op.lookupswitch.offset_nil]) (by decide +kernel)) ?_
            refine ev_r_aload_n (pc := 119) (k := 0) (v := .ref 269) trivial (by decide +kernel) (by rfl) ?_
            refine ev_r_iload_n (pc := 120) (k := 1) (v := Int32.ofInt a0) (by decide +kernel) (by rfl) ?_
            refine ev_r_virt (pc := 121) (y := 147) (mi := 54) (na := 1) (k := 269) (as := [.int (Int32.ofInt a0)]) (rest := []) (encc := ev_oU) (Q := ev_PU) (fun x S1 h => jt_54 d (by omega) Q a0 ha0 S x S1 h) (by exact ev_ob_269) (by decide +kernel) (by decide +kernel) (by decide +kernel) (by decide +kernel) rfl (by (try simp only [ev_sum, ev_nv_cat]); first | done | rfl) ?_
            intro _ s22 _
            show ev_w _ _ _ _ _ [] _ _ _ _
            exact ev_r_return (pc := 124) (x := ()) trivial (by decide +kernel) (by decide +kernel) rfl
/-- MendBench$Search.groupOf(I)I -/
def jm_120 (Q : Nat) (a0 : Int) (S : ev_St) : Option ((Int) × ev_St) := if a0 < 0 then (some (0, S)) else (if 26 ≤ a0 then (some (0, S)) else (ev_b (S.2.2.1 281 0) fun r3 => ev_if (r3 ≠ 0) (ev_if ((0 : Int) ≤ a0 ∧ a0 < (ev_aln (((r3 - 1) + 11)) : Int)) (ev_b (S.1 (((r3 - 1) + 11)) (Int.toNat a0)) fun x5 => some (x5, S)))))
theorem jt_120 (d : Nat) (hd : 1 ≤ d) (Q : Nat) (a0 : Int) (ha0 : ev_rng a0) (S : ev_St) (x : Int) (S' : ev_St) (hJ : jm_120 Q a0 S = some (x, S')) : ev_Ref d 120 [.ref 281, .int (Int32.ofInt a0)] S (ev_eI x) S' (ev_rng x) := by
  obtain ⟨d, rfl⟩ : ∃ e, d = e + 1 := ⟨d - 1, by omega⟩
  refine ev_ref_of (P := ev_rng) (lv := [(0, .ref 281), (1, .int (Int32.ofInt a0))]) (by decide +kernel) (by (try simp only [ev_sum, ev_nv_cat]); first | done | rfl) (by (try simp only [lv_args, ev_nv_cat]); first | done | rfl) ?_ x S' hJ
  unfold jm_120
  refine ev_r_iload_n (pc := 0) (k := 1) (v := Int32.ofInt a0) (by decide +kernel) (by rfl) ?_
  refine ev_r_if (pc := 1) (q := .lt) (o := 21) (t := 22) (c := a0 < 0) (by decide +kernel) (ev_k_lt ha0 ev_rng0) (by decide +kernel) ?_ ?_
  · intro c1
    refine ev_r_iconst (pc := 22) (k := 0) (by decide +kernel) ?_
    exact ev_r_ireturn (pc := 23) (x := 0) (v := Int32.ofInt 0) (ty := .int) (by decide) (by decide +kernel) (by decide +kernel) rfl rfl
  · intro c1
    refine ev_r_iload_n (pc := 4) (k := 1) (v := Int32.ofInt a0) (by decide +kernel) (by rfl) ?_
    refine ev_r_bipush (pc := 5) (k := 26) (by decide +kernel) (by decide +kernel) ?_
    refine ev_r_icmp (pc := 7) (q := .ge) (o := 15) (t := 22) (c := 26 ≤ a0) (by decide +kernel) (ev_k_ge ha0 (by decide)) (by decide +kernel) ?_ ?_
    · intro c2
      refine ev_r_iconst (pc := 22) (k := 0) (by decide +kernel) ?_
      exact ev_r_ireturn (pc := 23) (x := 0) (v := Int32.ofInt 0) (ty := .int) (by decide) (by decide +kernel) (by decide +kernel) rfl rfl
    · intro c2
      refine ev_r_aload_n (pc := 10) (k := 0) (v := .ref 281) trivial (by decide +kernel) (by rfl) ?_
      refine ev_r_getR (pc := 11) (y := 58) (ci := 8) (f := 0) (fin := 0) (t := 5) (by decide +kernel) (by decide +kernel) (by exact ev_ob_281) rfl rfl ?_
      intro r3 hr3
      have hr3 : r3 = 0 ∨ ev_isOb (r3 - 1) 5 = true := hr3
      refine ev_r_chk ?_
      intro c4
      refine ev_r_dr (r := r3) (fun v => [v]) c4 ?_
      refine ev_r_getC (pc := 14) (y := 62) (ci := 5) (f := 10) (fin := 2) (k' := ((r3 - 1) + 11)) (by decide +kernel) (by decide +kernel) (by exact (hr3.resolve_left c4)) rfl rfl ?_
      refine ev_r_iload_n (pc := 17) (k := 1) (v := Int32.ofInt a0) (by decide +kernel) (by rfl) ?_
      refine ev_r_iald (pc := 18) ha0 (by decide +kernel) (by exact (ev_fo_5_10 (hr3.resolve_left c4))) ?_
      intro x5 hx5
      refine ev_r_goto (pc := 19) (o := 4) (t := 23) (by decide +kernel) (by decide +kernel) ?_
      exact ev_r_ireturn (pc := 23) (x := x5) (v := Int32.ofInt x5) (ty := .int) hx5 (by decide +kernel) (by decide +kernel) rfl rfl
/-- MendBench$Search.signAt(I)I -/
def jm_119 (Q : Nat) (a0 : Int) (S : ev_St) : Option ((Int) × ev_St) := ev_b (S.2.2.1 281 1) fun r1 => ev_if (r1 ≠ 0) (ev_bd (jm_151 Q ((r1 - 1)) a0 S) fun x4 s3 => some (x4, s3))
theorem jt_119 (d : Nat) (hd : 2 ≤ d) (Q : Nat) (a0 : Int) (ha0 : ev_rng a0) (S : ev_St) (x : Int) (S' : ev_St) (hJ : jm_119 Q a0 S = some (x, S')) : ev_Ref d 119 [.ref 281, .int (Int32.ofInt a0)] S (ev_eI x) S' (ev_rng x) := by
  obtain ⟨d, rfl⟩ : ∃ e, d = e + 1 := ⟨d - 1, by omega⟩
  refine ev_ref_of (P := ev_rng) (lv := [(0, .ref 281), (1, .int (Int32.ofInt a0))]) (by decide +kernel) (by (try simp only [ev_sum, ev_nv_cat]); first | done | rfl) (by (try simp only [lv_args, ev_nv_cat]); first | done | rfl) ?_ x S' hJ
  unfold jm_119
  refine ev_r_aload_n (pc := 0) (k := 0) (v := .ref 281) trivial (by decide +kernel) (by rfl) ?_
  refine ev_r_getR (pc := 1) (y := 27) (ci := 8) (f := 1) (fin := 0) (t := 10) (by decide +kernel) (by decide +kernel) (by exact ev_ob_281) rfl rfl ?_
  intro r1 hr1
  have hr1 : r1 = 0 ∨ ev_isOb (r1 - 1) 10 = true := hr1
  refine ev_r_iload_n (pc := 4) (k := 1) (v := Int32.ofInt a0) (by decide +kernel) (by rfl) ?_
  refine ev_r_chk ?_
  intro c2
  refine ev_r_dr (r := r1) (fun v => [.int (Int32.ofInt a0), v]) c2 ?_
  refine ev_r_virt (pc := 5) (y := 55) (mi := 151) (na := 1) (k := (r1 - 1)) (as := [.int (Int32.ofInt a0)]) (rest := []) (encc := ev_oI) (Q := ev_rng) (fun x S1 h => jt_151 d (by omega) Q ((r1 - 1)) a0 (hr1.resolve_left c2) ha0 S x S1 h) (by exact (hr1.resolve_left c2)) (by decide +kernel) (by decide +kernel) (by decide +kernel) (by decide +kernel) rfl (by (try simp only [ev_sum, ev_nv_cat]); first | done | rfl) ?_
  intro x4 s3 hx4
  show ev_w _ _ _ _ _ [.int (Int32.ofInt x4)] _ _ _ _
  exact ev_r_ireturn (pc := 8) (x := x4) (v := Int32.ofInt x4) (ty := .int) hx4 (by decide +kernel) (by decide +kernel) rfl rfl
def jb_53_10 (Q : Nat) (a0 : Nat) (a1 : Int)  (K10 : Int → ev_St → Option ((Unit) × ev_St)) (x3 : Int) (s9 : ev_St) : Option ((Unit) × ev_St) := ev_if (1000 ≠ 0) (ev_b (ev_irem a1 1000) fun x10 => if x10 ≤ x3 then (some ((), s9)) else (ev_if (a0 ≠ 0) (ev_bd (jm_119 Q x3 s9) fun x14 s13 => ev_bd (jm_54 Q x14 s13) fun _ s15 => ev_ck (x3 + 1) fun x16 => K10 x16 s15)))
def jl_53_10 (Q : Nat) (a0 : Nat) (a1 : Int)  : Nat → Int → ev_St → Option ((Unit) × ev_St)
  | 0 => fun _ _ => none
  | q + 1 => jb_53_10 Q a0 a1  (jl_53_10 Q a0 a1  q)
theorem jbt_53_10 (d : Nat) (hd : 4 ≤ d + 1) (Q : Nat) (a0 : Nat) (a1 : Int) (ha0 : a0 = 0 ∨ ev_isOb (a0 - 1) 8 = true) (ha1 : ev_rng a1)   (K10 : Int → ev_St → Option ((Unit) × ev_St)) (hK10 : ∀ (x3 : Int) (hx3 : ev_rng x3), ∀ (s9 : ev_St) (w4 : List (Nat × Value)), ev_lk w4 0 = some (.ref 269) → ev_lk w4 1 = some (ev_nv a0) → ev_lk w4 2 = some (.int (Int32.ofInt a1)) → ev_lk w4 3 = some (.int (Int32.ofInt x3)) → ev_w none (ev_Mof 53) d 10 w4 [] s9 (K10 x3 s9) ev_eU ev_PU) : ∀ (x3 : Int) (hx3 : ev_rng x3), ∀ (s9 : ev_St) (w4 : List (Nat × Value)), ev_lk w4 0 = some (.ref 269) → ev_lk w4 1 = some (ev_nv a0) → ev_lk w4 2 = some (.int (Int32.ofInt a1)) → ev_lk w4 3 = some (.int (Int32.ofInt x3)) → ev_w none (ev_Mof 53) d 10 w4 [] s9 (jb_53_10 Q a0 a1  K10 x3 s9) ev_eU ev_PU := by
  intro x3 hx3 s9 w4 e5 e6 e7 e8
  unfold jb_53_10
  refine ev_r_iload_n (pc := 10) (k := 3) (v := Int32.ofInt x3) (by decide +kernel) (by exact e8) ?_
  refine ev_r_iload_n (pc := 11) (k := 2) (v := Int32.ofInt a1) (by decide +kernel) (by exact e7) ?_
  refine ev_r_sipush (pc := 12) (k := 1000) (by decide +kernel) (by decide +kernel) ?_
  refine ev_r_irem (pc := 15) (by decide) (by decide +kernel) ?_
  intro x10 hx10
  refine ev_r_icmp (pc := 16) (q := .ge) (o := 18) (t := 34) (c := x10 ≤ x3) (by decide +kernel) (ev_k_ge hx3 hx10) (by decide +kernel) ?_ ?_
  · intro c11
    exact ev_r_return (pc := 34) (x := ()) trivial (by decide +kernel) (by decide +kernel) rfl
  · intro c11
    refine ev_r_aload_n (pc := 19) (k := 0) (v := .ref 269) trivial (by decide +kernel) (by exact e5) ?_
    refine ev_r_aload_n (pc := 20) (k := 1) (v := ev_nv a0) (ev_isR_nv _) (by decide +kernel) (by exact e6) ?_
    refine ev_r_iload_n (pc := 21) (k := 3) (v := Int32.ofInt x3) (by decide +kernel) (by exact e8) ?_
    refine ev_r_chk ?_
    intro c12
    refine ev_r_dr2 (r := a0) (k := 281) (fun v => [.int (Int32.ofInt x3), v, .ref 269]) c12 (ev_on_8 (ha0.resolve_left c12)) ?_
    refine ev_r_virt (pc := 22) (y := 150) (mi := 119) (na := 1) (k := 281) (as := [.int (Int32.ofInt x3)]) (rest := [.ref 269]) (encc := ev_oI) (Q := ev_rng) (fun x S1 h => jt_119 d (by omega) Q x3 hx3 s9 x S1 h) (by exact ev_ob_281) (by decide +kernel) (by decide +kernel) (by decide +kernel) (by decide +kernel) rfl (by (try simp only [ev_sum, ev_nv_cat]); first | done | rfl) ?_
    intro x14 s13 hx14
    show ev_w _ _ _ _ _ [.int (Int32.ofInt x14), .ref 269] _ _ _ _
    refine ev_r_virt (pc := 25) (y := 147) (mi := 54) (na := 1) (k := 269) (as := [.int (Int32.ofInt x14)]) (rest := []) (encc := ev_oU) (Q := ev_PU) (fun x S1 h => jt_54 d (by omega) Q x14 hx14 s13 x S1 h) (by exact ev_ob_269) (by decide +kernel) (by decide +kernel) (by decide +kernel) (by decide +kernel) rfl (by (try simp only [ev_sum, ev_nv_cat]); first | done | rfl) ?_
    intro _ s15 _
    show ev_w _ _ _ _ _ [] _ _ _ _
    refine ev_r_iinc (pc := 28) (k := 3) (c := 1) (x := x3) (by decide +kernel) (by decide +kernel) (by exact e8) (fun _ => rfl) ?_
    intro x16 hx16
    refine ev_r_goto (pc := 31) (o := (-21)) (t := 10) (by decide +kernel) (by decide +kernel) ?_
    exact hK10 x16 hx16 s15 _ (by exact (ev_l1 e5 (by decide) (by decide))) (by exact (ev_l1 e6 (by decide) (by decide))) (by exact (ev_lk_st1 e7 (by decide) rfl)) (by exact ev_lk_st1_self)
theorem jlt_53_10 (d : Nat) (hd : 4 ≤ d + 1) (Q : Nat) (a0 : Nat) (a1 : Int) (ha0 : a0 = 0 ∨ ev_isOb (a0 - 1) 8 = true) (ha1 : ev_rng a1)   : ∀ q : Nat, ∀ (x3 : Int) (hx3 : ev_rng x3), ∀ (s9 : ev_St) (w4 : List (Nat × Value)), ev_lk w4 0 = some (.ref 269) → ev_lk w4 1 = some (ev_nv a0) → ev_lk w4 2 = some (.int (Int32.ofInt a1)) → ev_lk w4 3 = some (.int (Int32.ofInt x3)) → ev_w none (ev_Mof 53) d 10 w4 [] s9 (jl_53_10 Q a0 a1  q x3 s9) ev_eU ev_PU := by
  intro q
  induction q with
  | zero =>
    intro x3 hx3 s9 w4 e5 e6 e7 e8
    exact ev_w_none
  | succ q ih => exact jbt_53_10 d hd Q a0 a1 ha0 ha1   _ ih
/-- MendBench$Mender.putSpan(LMendBench$Search;I)V -/
def jm_53 (Q : Nat) (a0 : Nat) (a1 : Int) (S : ev_St) : Option ((Unit) × ev_St) := if a1 < 0 then (some ((), S)) else (ev_if (1000 ≠ 0) (ev_b (ev_idiv a1 1000) fun x2 => jl_53_10 Q a0 a1  Q x2 S))
theorem jt_53 (d : Nat) (hd : 4 ≤ d) (Q : Nat) (a0 : Nat) (a1 : Int) (ha0 : a0 = 0 ∨ ev_isOb (a0 - 1) 8 = true) (ha1 : ev_rng a1) (S : ev_St) (x : Unit) (S' : ev_St) (hJ : jm_53 Q a0 a1 S = some (x, S')) : ev_Ref d 53 [.ref 269, ev_nv a0, .int (Int32.ofInt a1)] S (ev_eU x) S' (ev_PU x) := by
  obtain ⟨d, rfl⟩ : ∃ e, d = e + 1 := ⟨d - 1, by omega⟩
  refine ev_ref_of (P := ev_PU) (lv := [(0, .ref 269), (1, ev_nv a0), (2, .int (Int32.ofInt a1))]) (by decide +kernel) (by (try simp only [ev_sum, ev_nv_cat]); first | done | rfl) (by (try simp only [lv_args, ev_nv_cat]); first | done | rfl) ?_ x S' hJ
  unfold jm_53
  refine ev_r_iload_n (pc := 0) (k := 2) (v := Int32.ofInt a1) (by decide +kernel) (by rfl) ?_
  refine ev_r_if (pc := 1) (q := .lt) (o := 33) (t := 34) (c := a1 < 0) (by decide +kernel) (ev_k_lt ha1 ev_rng0) (by decide +kernel) ?_ ?_
  · intro c1
    exact ev_r_return (pc := 34) (x := ()) trivial (by decide +kernel) (by decide +kernel) rfl
  · intro c1
    refine ev_r_iload_n (pc := 4) (k := 2) (v := Int32.ofInt a1) (by decide +kernel) (by rfl) ?_
    refine ev_r_sipush (pc := 5) (k := 1000) (by decide +kernel) (by decide +kernel) ?_
    refine ev_r_idiv (pc := 8) (by decide) (by decide +kernel) ?_
    intro x2 hx2
    refine ev_r_istore_n (pc := 9) (k := 3) (by decide +kernel) (by decide +kernel) rfl ?_
    exact jlt_53_10 d hd Q a0 a1 ha0 ha1   Q x2 hx2 S _ (by exact (ev_l1 (by rfl) (by decide) (by decide))) (by exact (ev_l1 (by rfl) (by decide) (by decide))) (by exact (ev_lk_st1 (by rfl) (by decide) rfl)) (by exact ev_lk_st1_self)
/-- MendBench$Mender.putPiece(LMendBench$Text;ILMendBench$Search;I)V -/
def jm_51 (Q : Nat) (a0 : Nat) (a1 : Int) (a2 : Nat) (a3 : Int) (S : ev_St) : Option ((Unit) × ev_St) := ev_if (a0 ≠ 0) (ev_bd (jm_151 Q ((a0 - 1)) a1 S) fun x3 s2 => ev_ck (a1 + 1) fun x4 => ev_if (a0 ≠ 0) (ev_bd (jm_151 Q ((a0 - 1)) x4 s2) fun x7 s6 => if x3 ≠ 92 then (ev_jn (fun  (s14 : ev_St) => if x3 ≠ 36 then (ev_bd (jm_54 Q x3 s14) fun _ s16 => some ((), s16)) else (ev_ck (x7 - 48) fun x17 => ev_if (a2 ≠ 0) (ev_bd (jm_118 Q x17 s14) fun x20 s19 => ev_bd (jm_53 Q a2 x20 s19) fun _ s21 => some ((), s21)))) fun K88 => if x3 ≠ 36 then (K88  s6) else (if x7 ≠ 123 then (K88  s6) else (ev_ck (a1 + 2) fun x24 => ev_if (a0 ≠ 0) (ev_bd (jm_151 Q ((a0 - 1)) x24 s6) fun x27 s26 => ev_ck (x27 - 97) fun x28 => ev_if (a2 ≠ 0) (ev_bd (jm_120 Q x28 s26) fun x31 s30 => ev_jn (fun (x33 : Int) (r32 : Nat) (s35 : ev_St) => ev_bd (jm_53 Q r32 x33 s35) fun _ s36 => some ((), s36)) fun K82 => if x31 ≠ 0 then (ev_if (a2 ≠ 0) (ev_bd (jm_118 Q x31 s30) fun x40 s39 => K82 x40 a2 s39)) else (K82 ((-3)) a2 s30)))))) else (ev_bd (jm_52 Q x7 a3 s6) fun _ s41 => some ((), s41))))
theorem jt_51 (d : Nat) (hd : 5 ≤ d) (Q : Nat) (a0 : Nat) (a1 : Int) (a2 : Nat) (a3 : Int) (ha0 : a0 = 0 ∨ ev_isOb (a0 - 1) 10 = true) (ha1 : ev_rng a1) (ha2 : a2 = 0 ∨ ev_isOb (a2 - 1) 8 = true) (ha3 : ev_rng a3) (S : ev_St) (x : Unit) (S' : ev_St) (hJ : jm_51 Q a0 a1 a2 a3 S = some (x, S')) : ev_Ref d 51 [.ref 269, ev_nv a0, .int (Int32.ofInt a1), ev_nv a2, .int (Int32.ofInt a3)] S (ev_eU x) S' (ev_PU x) := by
  obtain ⟨d, rfl⟩ : ∃ e, d = e + 1 := ⟨d - 1, by omega⟩
  refine ev_ref_of (P := ev_PU) (lv := [(0, .ref 269), (1, ev_nv a0), (2, .int (Int32.ofInt a1)), (3, ev_nv a2), (4, .int (Int32.ofInt a3))]) (by decide +kernel) (by (try simp only [ev_sum, ev_nv_cat]); first | done | rfl) (by (try simp only [lv_args, ev_nv_cat]); first | done | rfl) ?_ x S' hJ
  unfold jm_51
  refine ev_r_aload_n (pc := 0) (k := 1) (v := ev_nv a0) (ev_isR_nv _) (by decide +kernel) (by rfl) ?_
  refine ev_r_iload_n (pc := 1) (k := 2) (v := Int32.ofInt a1) (by decide +kernel) (by rfl) ?_
  refine ev_r_chk ?_
  intro c1
  refine ev_r_dr (r := a0) (fun v => [.int (Int32.ofInt a1), v]) c1 ?_
  refine ev_r_virt (pc := 2) (y := 109) (mi := 151) (na := 1) (k := (a0 - 1)) (as := [.int (Int32.ofInt a1)]) (rest := []) (encc := ev_oI) (Q := ev_rng) (fun x S1 h => jt_151 d (by omega) Q ((a0 - 1)) a1 (ha0.resolve_left c1) ha1 S x S1 h) (by exact (ha0.resolve_left c1)) (by decide +kernel) (by decide +kernel) (by decide +kernel) (by decide +kernel) rfl (by (try simp only [ev_sum, ev_nv_cat]); first | done | rfl) ?_
  intro x3 s2 hx3
  show ev_w _ _ _ _ _ [.int (Int32.ofInt x3)] _ _ _ _
  refine ev_r_istore (pc := 5) (k := 5) (by decide +kernel) (by decide +kernel) rfl ?_
  refine ev_r_aload_n (pc := 7) (k := 1) (v := ev_nv a0) (ev_isR_nv _) (by decide +kernel) (by exact (ev_l1 (by rfl) (by decide) (by decide))) ?_
  refine ev_r_iload_n (pc := 8) (k := 2) (v := Int32.ofInt a1) (by decide +kernel) (by exact (ev_l1 (by rfl) (by decide) (by decide))) ?_
  refine ev_r_iconst (pc := 9) (k := 1) (by decide +kernel) ?_
  refine ev_r_iadd (pc := 10) (by decide +kernel) ?_
  intro x4 hx4
  refine ev_r_chk ?_
  intro c5
  refine ev_r_dr (r := a0) (fun v => [.int (Int32.ofInt x4), v]) c5 ?_
  refine ev_r_virt (pc := 11) (y := 109) (mi := 151) (na := 1) (k := (a0 - 1)) (as := [.int (Int32.ofInt x4)]) (rest := []) (encc := ev_oI) (Q := ev_rng) (fun x S1 h => jt_151 d (by omega) Q ((a0 - 1)) x4 (ha0.resolve_left c5) hx4 s2 x S1 h) (by exact (ha0.resolve_left c5)) (by decide +kernel) (by decide +kernel) (by decide +kernel) (by decide +kernel) rfl (by (try simp only [ev_sum, ev_nv_cat]); first | done | rfl) ?_
  intro x7 s6 hx7
  show ev_w _ _ _ _ _ [.int (Int32.ofInt x7)] _ _ _ _
  refine ev_r_istore (pc := 14) (k := 6) (by decide +kernel) (by decide +kernel) rfl ?_
  refine ev_r_iload (pc := 16) (k := 5) (v := Int32.ofInt x3) (by decide +kernel) (by exact (ev_lk_st1 ev_lk_st1_self (by decide) rfl)) ?_
  refine ev_r_bipush (pc := 18) (k := 92) (by decide +kernel) (by decide +kernel) ?_
  refine ev_r_icmp (pc := 20) (q := .ne) (o := 14) (t := 34) (c := x3 ≠ 92) (by decide +kernel) (ev_k_ne hx3 (by decide)) (by decide +kernel) ?_ ?_
  · intro c8
    refine ev_r_iload (pc := 34) (k := 5) (v := Int32.ofInt x3) (by decide +kernel) (by exact (ev_lk_st1 ev_lk_st1_self (by decide) rfl)) ?_
    refine ev_r_bipush (pc := 36) (k := 36) (by decide +kernel) (by decide +kernel) ?_
    refine ev_r_jn (Q := fun K => ∀ (s14 : ev_St) (w9 : List (Nat × Value)), ev_lk w9 0 = some (.ref 269) → ev_lk w9 3 = some (ev_nv a2) → ev_lk w9 5 = some (.int (Int32.ofInt x3)) → ev_lk w9 6 = some (.int (Int32.ofInt x7)) → ev_w none (ev_Mof 51) d 88 w9 [] s14 (K  s14) ev_eU ev_PU) ?_ ?_
    · intro  s14 w9 e10 e11 e12 e13
      refine ev_r_iload (pc := 88) (k := 5) (v := Int32.ofInt x3) (by decide +kernel) (by exact e12) ?_
      refine ev_r_bipush (pc := 90) (k := 36) (by decide +kernel) (by decide +kernel) ?_
      refine ev_r_icmp (pc := 92) (q := .ne) (o := 20) (t := 112) (c := x3 ≠ 36) (by decide +kernel) (ev_k_ne hx3 (by decide)) (by decide +kernel) ?_ ?_
      · intro c15
        refine ev_r_aload_n (pc := 112) (k := 0) (v := .ref 269) trivial (by decide +kernel) (by exact e10) ?_
        refine ev_r_iload (pc := 113) (k := 5) (v := Int32.ofInt x3) (by decide +kernel) (by exact e12) ?_
        refine ev_r_virt (pc := 115) (y := 147) (mi := 54) (na := 1) (k := 269) (as := [.int (Int32.ofInt x3)]) (rest := []) (encc := ev_oU) (Q := ev_PU) (fun x S1 h => jt_54 d (by omega) Q x3 hx3 s14 x S1 h) (by exact ev_ob_269) (by decide +kernel) (by decide +kernel) (by decide +kernel) (by decide +kernel) rfl (by (try simp only [ev_sum, ev_nv_cat]); first | done | rfl) ?_
        intro _ s16 _
        show ev_w _ _ _ _ _ [] _ _ _ _
        exact ev_r_return (pc := 118) (x := ()) trivial (by decide +kernel) (by decide +kernel) rfl
      · intro c15
        refine ev_r_aload_n (pc := 95) (k := 0) (v := .ref 269) trivial (by decide +kernel) (by exact e10) ?_
        refine ev_r_aload_n (pc := 96) (k := 3) (v := ev_nv a2) (ev_isR_nv _) (by decide +kernel) (by exact e11) ?_
        refine ev_r_aload_n (pc := 97) (k := 3) (v := ev_nv a2) (ev_isR_nv _) (by decide +kernel) (by exact e11) ?_
        refine ev_r_iload (pc := 98) (k := 6) (v := Int32.ofInt x7) (by decide +kernel) (by exact e13) ?_
        refine ev_r_bipush (pc := 100) (k := 48) (by decide +kernel) (by decide +kernel) ?_
        refine ev_r_isub (pc := 102) (by decide +kernel) ?_
        intro x17 hx17
        refine ev_r_chk ?_
        intro c18
        refine ev_r_dr2 (r := a2) (k := 281) (fun v => [.int (Int32.ofInt x17), v, ev_nv a2, .ref 269]) c18 (ev_on_8 (ha2.resolve_left c18)) ?_
        refine ev_r_virt (pc := 103) (y := 129) (mi := 118) (na := 1) (k := 281) (as := [.int (Int32.ofInt x17)]) (rest := [ev_nv a2, .ref 269]) (encc := ev_oI) (Q := ev_rng) (fun x S1 h => jt_118 d (by omega) Q x17 hx17 s14 x S1 h) (by exact ev_ob_281) (by decide +kernel) (by decide +kernel) (by decide +kernel) (by decide +kernel) rfl (by (try simp only [ev_sum, ev_nv_cat]); first | done | rfl) ?_
        intro x20 s19 hx20
        show ev_w _ _ _ _ _ [.int (Int32.ofInt x20), ev_nv a2, .ref 269] _ _ _ _
        refine ev_r_virt (pc := 106) (y := 143) (mi := 53) (na := 2) (k := 269) (as := [ev_nv a2, .int (Int32.ofInt x20)]) (rest := []) (encc := ev_oU) (Q := ev_PU) (fun x S1 h => jt_53 d (by omega) Q a2 x20 (by exact ha2) hx20 s19 x S1 h) (by exact ev_ob_269) (by decide +kernel) (by decide +kernel) (by decide +kernel) (by decide +kernel) rfl (by (try simp only [ev_sum, ev_nv_cat]); first | done | rfl) ?_
        intro _ s21 _
        show ev_w _ _ _ _ _ [] _ _ _ _
        refine ev_r_goto (pc := 109) (o := 9) (t := 118) (by decide +kernel) (by decide +kernel) ?_
        exact ev_r_return (pc := 118) (x := ()) trivial (by decide +kernel) (by decide +kernel) rfl
    · intro K88 hK88
      refine ev_r_icmp (pc := 38) (q := .ne) (o := 50) (t := 88) (c := x3 ≠ 36) (by decide +kernel) (ev_k_ne hx3 (by decide)) (by decide +kernel) ?_ ?_
      · intro c22
        exact hK88  s6 _ (by exact (ev_l1 (ev_l1 (by rfl) (by decide) (by decide)) (by decide) (by decide))) (by exact (ev_l1 (ev_l1 (by rfl) (by decide) (by decide)) (by decide) (by decide))) (by exact (ev_lk_st1 ev_lk_st1_self (by decide) rfl)) (by exact ev_lk_st1_self)
      · intro c22
        refine ev_r_iload (pc := 41) (k := 6) (v := Int32.ofInt x7) (by decide +kernel) (by exact ev_lk_st1_self) ?_
        refine ev_r_bipush (pc := 43) (k := 123) (by decide +kernel) (by decide +kernel) ?_
        refine ev_r_icmp (pc := 45) (q := .ne) (o := 43) (t := 88) (c := x7 ≠ 123) (by decide +kernel) (ev_k_ne hx7 (by decide)) (by decide +kernel) ?_ ?_
        · intro c23
          exact hK88  s6 _ (by exact (ev_l1 (ev_l1 (by rfl) (by decide) (by decide)) (by decide) (by decide))) (by exact (ev_l1 (ev_l1 (by rfl) (by decide) (by decide)) (by decide) (by decide))) (by exact (ev_lk_st1 ev_lk_st1_self (by decide) rfl)) (by exact ev_lk_st1_self)
        · intro c23
          refine ev_r_aload_n (pc := 48) (k := 3) (v := ev_nv a2) (ev_isR_nv _) (by decide +kernel) (by exact (ev_l1 (ev_l1 (by rfl) (by decide) (by decide)) (by decide) (by decide))) ?_
          refine ev_r_aload_n (pc := 49) (k := 1) (v := ev_nv a0) (ev_isR_nv _) (by decide +kernel) (by exact (ev_l1 (ev_l1 (by rfl) (by decide) (by decide)) (by decide) (by decide))) ?_
          refine ev_r_iload_n (pc := 50) (k := 2) (v := Int32.ofInt a1) (by decide +kernel) (by exact (ev_l1 (ev_l1 (by rfl) (by decide) (by decide)) (by decide) (by decide))) ?_
          refine ev_r_iconst (pc := 51) (k := 2) (by decide +kernel) ?_
          refine ev_r_iadd (pc := 52) (by decide +kernel) ?_
          intro x24 hx24
          refine ev_r_chk ?_
          intro c25
          refine ev_r_dr (r := a0) (fun v => [.int (Int32.ofInt x24), v, ev_nv a2]) c25 ?_
          refine ev_r_virt (pc := 53) (y := 109) (mi := 151) (na := 1) (k := (a0 - 1)) (as := [.int (Int32.ofInt x24)]) (rest := [ev_nv a2]) (encc := ev_oI) (Q := ev_rng) (fun x S1 h => jt_151 d (by omega) Q ((a0 - 1)) x24 (ha0.resolve_left c25) hx24 s6 x S1 h) (by exact (ha0.resolve_left c25)) (by decide +kernel) (by decide +kernel) (by decide +kernel) (by decide +kernel) rfl (by (try simp only [ev_sum, ev_nv_cat]); first | done | rfl) ?_
          intro x27 s26 hx27
          show ev_w _ _ _ _ _ [.int (Int32.ofInt x27), ev_nv a2] _ _ _ _
          refine ev_r_bipush (pc := 56) (k := 97) (by decide +kernel) (by decide +kernel) ?_
          refine ev_r_isub (pc := 58) (by decide +kernel) ?_
          intro x28 hx28
          refine ev_r_chk ?_
          intro c29
          refine ev_r_dr2 (r := a2) (k := 281) (fun v => [.int (Int32.ofInt x28), v]) c29 (ev_on_8 (ha2.resolve_left c29)) ?_
          refine ev_r_virt (pc := 59) (y := 140) (mi := 120) (na := 1) (k := 281) (as := [.int (Int32.ofInt x28)]) (rest := []) (encc := ev_oI) (Q := ev_rng) (fun x S1 h => jt_120 d (by omega) Q x28 hx28 s26 x S1 h) (by exact ev_ob_281) (by decide +kernel) (by decide +kernel) (by decide +kernel) (by decide +kernel) rfl (by (try simp only [ev_sum, ev_nv_cat]); first | done | rfl) ?_
          intro x31 s30 hx31
          show ev_w _ _ _ _ _ [.int (Int32.ofInt x31)] _ _ _ _
          refine ev_r_istore (pc := 62) (k := 7) (by decide +kernel) (by decide +kernel) rfl ?_
          refine ev_r_aload_n (pc := 64) (k := 0) (v := .ref 269) trivial (by decide +kernel) (by exact (ev_l1 (ev_l1 (ev_l1 (by rfl) (by decide) (by decide)) (by decide) (by decide)) (by decide) (by decide))) ?_
          refine ev_r_aload_n (pc := 65) (k := 3) (v := ev_nv a2) (ev_isR_nv _) (by decide +kernel) (by exact (ev_l1 (ev_l1 (ev_l1 (by rfl) (by decide) (by decide)) (by decide) (by decide)) (by decide) (by decide))) ?_
          refine ev_r_iload (pc := 66) (k := 7) (v := Int32.ofInt x31) (by decide +kernel) (by exact ev_lk_st1_self) ?_
          refine ev_r_jn (Q := fun K => ∀ (x33 : Int) (hx33 : ev_rng x33), ∀ (r32 : Nat) (hr32 : r32 = 0 ∨ ev_isOb (r32 - 1) 8 = true), ∀ (s35 : ev_St) (w34 : List (Nat × Value)), ev_w none (ev_Mof 51) d 82 w34 [.int (Int32.ofInt x33), ev_nv r32, .ref 269] s35 (K x33 r32 s35) ev_eU ev_PU) ?_ ?_
          · intro x33 hx33 r32 hr32 s35 w34 
            refine ev_r_virt (pc := 82) (y := 143) (mi := 53) (na := 2) (k := 269) (as := [ev_nv r32, .int (Int32.ofInt x33)]) (rest := []) (encc := ev_oU) (Q := ev_PU) (fun x S1 h => jt_53 d (by omega) Q r32 x33 (by exact hr32) hx33 s35 x S1 h) (by exact ev_ob_269) (by decide +kernel) (by decide +kernel) (by decide +kernel) (by decide +kernel) rfl (by (try simp only [ev_sum, ev_nv_cat]); first | done | rfl) ?_
            intro _ s36 _
            show ev_w _ _ _ _ _ [] _ _ _ _
            refine ev_r_goto (pc := 85) (o := 33) (t := 118) (by decide +kernel) (by decide +kernel) ?_
            exact ev_r_return (pc := 118) (x := ()) trivial (by decide +kernel) (by decide +kernel) rfl
          · intro K82 hK82
            refine ev_r_if (pc := 68) (q := .ne) (o := 8) (t := 76) (c := x31 ≠ 0) (by decide +kernel) (ev_k_ne hx31 ev_rng0) (by decide +kernel) ?_ ?_
            · intro c37
              refine ev_r_aload_n (pc := 76) (k := 3) (v := ev_nv a2) (ev_isR_nv _) (by decide +kernel) (by exact (ev_l1 (ev_l1 (ev_l1 (by rfl) (by decide) (by decide)) (by decide) (by decide)) (by decide) (by decide))) ?_
              refine ev_r_iload (pc := 77) (k := 7) (v := Int32.ofInt x31) (by decide +kernel) (by exact ev_lk_st1_self) ?_
              refine ev_r_chk ?_
              intro c38
              refine ev_r_dr2 (r := a2) (k := 281) (fun v => [.int (Int32.ofInt x31), v, ev_nv a2, .ref 269]) c38 (ev_on_8 (ha2.resolve_left c38)) ?_
              refine ev_r_virt (pc := 79) (y := 129) (mi := 118) (na := 1) (k := 281) (as := [.int (Int32.ofInt x31)]) (rest := [ev_nv a2, .ref 269]) (encc := ev_oI) (Q := ev_rng) (fun x S1 h => jt_118 d (by omega) Q x31 hx31 s30 x S1 h) (by exact ev_ob_281) (by decide +kernel) (by decide +kernel) (by decide +kernel) (by decide +kernel) rfl (by (try simp only [ev_sum, ev_nv_cat]); first | done | rfl) ?_
              intro x40 s39 hx40
              show ev_w _ _ _ _ _ [.int (Int32.ofInt x40), ev_nv a2, .ref 269] _ _ _ _
              exact hK82 x40 hx40 a2 ha2 s39 _ 
            · intro c37
              refine ev_r_bipush (pc := 71) (k := -3) (by decide +kernel) (by decide +kernel) ?_
              refine ev_r_goto (pc := 73) (o := 9) (t := 82) (by decide +kernel) (by decide +kernel) ?_
              exact hK82 ((-3)) (by decide) a2 ha2 s30 _ 
  · intro c8
    refine ev_r_aload_n (pc := 23) (k := 0) (v := .ref 269) trivial (by decide +kernel) (by exact (ev_l1 (ev_l1 (by rfl) (by decide) (by decide)) (by decide) (by decide))) ?_
    refine ev_r_iload (pc := 24) (k := 6) (v := Int32.ofInt x7) (by decide +kernel) (by exact ev_lk_st1_self) ?_
    refine ev_r_iload (pc := 26) (k := 4) (v := Int32.ofInt a3) (by decide +kernel) (by exact (ev_l1 (ev_lk_st1 (by rfl) (by decide) rfl) (by decide) (by decide))) ?_
    refine ev_r_virt (pc := 28) (y := 136) (mi := 52) (na := 2) (k := 269) (as := [.int (Int32.ofInt x7), .int (Int32.ofInt a3)]) (rest := []) (encc := ev_oU) (Q := ev_PU) (fun x S1 h => jt_52 d (by omega) Q x7 a3 hx7 ha3 s6 x S1 h) (by exact ev_ob_269) (by decide +kernel) (by decide +kernel) (by decide +kernel) (by decide +kernel) rfl (by (try simp only [ev_sum, ev_nv_cat]); first | done | rfl) ?_
    intro _ s41 _
    show ev_w _ _ _ _ _ [] _ _ _ _
    refine ev_r_goto (pc := 31) (o := 87) (t := 118) (by decide +kernel) (by decide +kernel) ?_
    exact ev_r_return (pc := 118) (x := ()) trivial (by decide +kernel) (by decide +kernel) rfl
def jb_50_17 (Q : Nat) (a0 : Nat) (a1 : Nat) (a2 : Int)  (K17 : Int → Int → Int → ev_St → Option ((Unit) × ev_St)) (x2 : Int) (x3 : Int) (x4 : Int) (s13 : ev_St) : Option ((Unit) × ev_St) := ev_if (a0 ≠ 0) (ev_b (s13.1 ((a0 - 1)) 1) fun x15 => if x15 ≤ x4 then (some ((), s13)) else (ev_bd (jm_49 Q a0 x4 x2 s13) fun x18 s17 => ev_b (ev_imax 1 x18) fun x19 => ev_if (a0 ≠ 0) (ev_bd (jm_151 Q ((a0 - 1)) x4 s17) fun x22 s21 => ev_jn (fun (x23 : Int) (x24 : Int) (x25 : Int) (s35 : ev_St) => ev_ck (x4 + x25) fun x36 => K17 x23 x24 x36 s35) fun K148 => if x22 ≠ 63 then (ev_jn (fun  (s48 : ev_St) => ev_jn (fun  (s58 : ev_St) => if x3 = 0 then (K148 x2 x3 x19 s58) else (ev_bd (jm_51 Q a0 x4 a1 a2 s58) fun _ s60 => K148 x2 x3 x19 s60)) fun K134 => if x2 = 0 then (K134  s48) else (if x22 ≠ 125 then (K134  s48) else (K148 0 1 x19 s48))) fun K113 => if x2 = 0 then (K113  s21) else (if x22 ≠ 124 then (K113  s21) else (ev_jn (fun (x65 : Int) (s74 : ev_St) => K148 x2 x65 x19 s74) fun K108 => if x3 ≠ 0 then (K108 0 s21) else (K108 1 s21)))) else (ev_ck (x4 + 1) fun x76 => ev_if (a0 ≠ 0) (ev_bd (jm_151 Q ((a0 - 1)) x76 s21) fun x79 s78 => ev_ck (x79 - 48) fun x80 => ev_if (a1 ≠ 0) (ev_bd (jm_118 Q x80 s78) fun x83 s82 => ev_jn (fun (x84 : Int) (x85 : Int) (s94 : ev_St) => K148 x84 x85 x19 s94) fun K81 => if x83 < 0 then (K81 1 0 s82) else (K81 1 1 s82)))))))
def jl_50_17 (Q : Nat) (a0 : Nat) (a1 : Nat) (a2 : Int)  : Nat → Int → Int → Int → ev_St → Option ((Unit) × ev_St)
  | 0 => fun _ _ _ _ => none
  | q + 1 => jb_50_17 Q a0 a1 a2  (jl_50_17 Q a0 a1 a2  q)
theorem jbt_50_17 (d : Nat) (hd : 6 ≤ d + 1) (Q : Nat) (a0 : Nat) (a1 : Nat) (a2 : Int) (ha0 : a0 = 0 ∨ ev_isOb (a0 - 1) 10 = true) (ha1 : a1 = 0 ∨ ev_isOb (a1 - 1) 8 = true) (ha2 : ev_rng a2)   (K17 : Int → Int → Int → ev_St → Option ((Unit) × ev_St)) (hK17 : ∀ (x2 : Int) (hx2 : ev_rng x2), ∀ (x3 : Int) (hx3 : ev_rng x3), ∀ (x4 : Int) (hx4 : ev_rng x4), ∀ (s13 : ev_St) (w5 : List (Nat × Value)), ev_lk w5 0 = some (.ref 269) → ev_lk w5 1 = some (ev_nv a0) → ev_lk w5 2 = some (ev_nv a1) → ev_lk w5 3 = some (.int (Int32.ofInt a2)) → ev_lk w5 4 = some (.int (Int32.ofInt x2)) → ev_lk w5 5 = some (.int (Int32.ofInt x3)) → ev_lk w5 7 = some (.int (Int32.ofInt x4)) → ev_w none (ev_Mof 50) d 17 w5 [] s13 (K17 x2 x3 x4 s13) ev_eU ev_PU) : ∀ (x2 : Int) (hx2 : ev_rng x2), ∀ (x3 : Int) (hx3 : ev_rng x3), ∀ (x4 : Int) (hx4 : ev_rng x4), ∀ (s13 : ev_St) (w5 : List (Nat × Value)), ev_lk w5 0 = some (.ref 269) → ev_lk w5 1 = some (ev_nv a0) → ev_lk w5 2 = some (ev_nv a1) → ev_lk w5 3 = some (.int (Int32.ofInt a2)) → ev_lk w5 4 = some (.int (Int32.ofInt x2)) → ev_lk w5 5 = some (.int (Int32.ofInt x3)) → ev_lk w5 7 = some (.int (Int32.ofInt x4)) → ev_w none (ev_Mof 50) d 17 w5 [] s13 (jb_50_17 Q a0 a1 a2  K17 x2 x3 x4 s13) ev_eU ev_PU := by
  intro x2 hx2 x3 hx3 x4 hx4 s13 w5 e6 e7 e8 e9 e10 e11 e12
  unfold jb_50_17
  refine ev_r_iload (pc := 17) (k := 7) (v := Int32.ofInt x4) (by decide +kernel) (by exact e12) ?_
  refine ev_r_aload_n (pc := 19) (k := 1) (v := ev_nv a0) (ev_isR_nv _) (by decide +kernel) (by exact e7) ?_
  refine ev_r_chk ?_
  intro c14
  refine ev_r_dr (r := a0) (fun v => [v, .int (Int32.ofInt x4)]) c14 ?_
  refine ev_r_getI (pc := 20) (y := 54) (ci := 10) (f := 1) (fin := 0) (by decide +kernel) (by decide +kernel) (by exact (ha0.resolve_left c14)) rfl ?_
  intro x15 hx15
  refine ev_r_icmp (pc := 23) (q := .ge) (o := 135) (t := 158) (c := x15 ≤ x4) (by decide +kernel) (ev_k_ge hx4 hx15) (by decide +kernel) ?_ ?_
  · intro c16
    exact ev_r_return (pc := 158) (x := ()) trivial (by decide +kernel) (by decide +kernel) rfl
  · intro c16
    refine ev_r_iconst (pc := 26) (k := 1) (by decide +kernel) ?_
    refine ev_r_aload_n (pc := 27) (k := 1) (v := ev_nv a0) (ev_isR_nv _) (by decide +kernel) (by exact e7) ?_
    refine ev_r_iload (pc := 28) (k := 7) (v := Int32.ofInt x4) (by decide +kernel) (by exact e12) ?_
    refine ev_r_iload (pc := 30) (k := 4) (v := Int32.ofInt x2) (by decide +kernel) (by exact e10) ?_
    refine ev_r_stat (pc := 32) (y := 105) (kind := 2) (mi := 49) (na := 3) (as := [ev_nv a0, .int (Int32.ofInt x4), .int (Int32.ofInt x2)]) (rest := [.int (Int32.ofInt 1)]) (encc := ev_oI) (Q := ev_rng) (fun x S1 h => jt_49 d (by omega) Q a0 x4 x2 (by exact ha0) hx4 hx2 s13 x S1 h) (Or.inl rfl) (by decide +kernel) (by decide +kernel) (by decide +kernel) (by decide +kernel) rfl (by (try simp only [ev_sum, ev_nv_cat]); first | done | rfl) ?_
    intro x18 s17 hx18
    show ev_w _ _ _ _ _ [.int (Int32.ofInt x18), .int (Int32.ofInt 1)] _ _ _ _
    refine ev_r_mm1 (pc := 35) (y := 126) (kd := 10) (Or.inr rfl) (by decide +kernel) (by decide +kernel) (by (try simp only [ev_sum, ev_nv_cat]); first | done | rfl) ?_
    intro x19 hx19
    refine ev_r_istore (pc := 38) (k := 6) (by decide +kernel) (by decide +kernel) rfl ?_
    refine ev_r_aload_n (pc := 40) (k := 1) (v := ev_nv a0) (ev_isR_nv _) (by decide +kernel) (by exact (ev_l1 e7 (by decide) (by decide))) ?_
    refine ev_r_iload (pc := 41) (k := 7) (v := Int32.ofInt x4) (by decide +kernel) (by exact (ev_l1 e12 (by decide) (by decide))) ?_
    refine ev_r_chk ?_
    intro c20
    refine ev_r_dr (r := a0) (fun v => [.int (Int32.ofInt x4), v]) c20 ?_
    refine ev_r_virt (pc := 43) (y := 109) (mi := 151) (na := 1) (k := (a0 - 1)) (as := [.int (Int32.ofInt x4)]) (rest := []) (encc := ev_oI) (Q := ev_rng) (fun x S1 h => jt_151 d (by omega) Q ((a0 - 1)) x4 (ha0.resolve_left c20) hx4 s17 x S1 h) (by exact (ha0.resolve_left c20)) (by decide +kernel) (by decide +kernel) (by decide +kernel) (by decide +kernel) rfl (by (try simp only [ev_sum, ev_nv_cat]); first | done | rfl) ?_
    intro x22 s21 hx22
    show ev_w _ _ _ _ _ [.int (Int32.ofInt x22)] _ _ _ _
    refine ev_r_istore (pc := 46) (k := 8) (by decide +kernel) (by decide +kernel) rfl ?_
    refine ev_r_iload (pc := 48) (k := 8) (v := Int32.ofInt x22) (by decide +kernel) (by exact ev_lk_st1_self) ?_
    refine ev_r_bipush (pc := 50) (k := 63) (by decide +kernel) (by decide +kernel) ?_
    refine ev_r_jn (Q := fun K => ∀ (x23 : Int) (hx23 : ev_rng x23), ∀ (x24 : Int) (hx24 : ev_rng x24), ∀ (x25 : Int) (hx25 : ev_rng x25), ∀ (s35 : ev_St) (w26 : List (Nat × Value)), ev_lk w26 0 = some (.ref 269) → ev_lk w26 1 = some (ev_nv a0) → ev_lk w26 2 = some (ev_nv a1) → ev_lk w26 3 = some (.int (Int32.ofInt a2)) → ev_lk w26 4 = some (.int (Int32.ofInt x23)) → ev_lk w26 5 = some (.int (Int32.ofInt x24)) → ev_lk w26 6 = some (.int (Int32.ofInt x25)) → ev_lk w26 7 = some (.int (Int32.ofInt x4)) → ev_w none (ev_Mof 50) d 148 w26 [] s35 (K x23 x24 x25 s35) ev_eU ev_PU) ?_ ?_
    · intro x23 hx23 x24 hx24 x25 hx25 s35 w26 e27 e28 e29 e30 e31 e32 e33 e34
      refine ev_r_iload (pc := 148) (k := 7) (v := Int32.ofInt x4) (by decide +kernel) (by exact e34) ?_
      refine ev_r_iload (pc := 150) (k := 6) (v := Int32.ofInt x25) (by decide +kernel) (by exact e33) ?_
      refine ev_r_iadd (pc := 152) (by decide +kernel) ?_
      intro x36 hx36
      refine ev_r_istore (pc := 153) (k := 7) (by decide +kernel) (by decide +kernel) rfl ?_
      refine ev_r_goto (pc := 155) (o := (-138)) (t := 17) (by decide +kernel) (by decide +kernel) ?_
      exact hK17 x23 hx23 x24 hx24 x36 hx36 s35 _ (by exact (ev_l1 e27 (by decide) (by decide))) (by exact (ev_l1 e28 (by decide) (by decide))) (by exact (ev_l1 e29 (by decide) (by decide))) (by exact (ev_l1 e30 (by decide) (by decide))) (by exact (ev_l1 e31 (by decide) (by decide))) (by exact (ev_l1 e32 (by decide) (by decide))) (by exact ev_lk_st1_self)
    · intro K148 hK148
      refine ev_r_icmp (pc := 52) (q := .ne) (o := 34) (t := 86) (c := x22 ≠ 63) (by decide +kernel) (ev_k_ne hx22 (by decide)) (by decide +kernel) ?_ ?_
      · intro c37
        refine ev_r_iload (pc := 86) (k := 4) (v := Int32.ofInt x2) (by decide +kernel) (by exact (ev_l1 (ev_l1 e10 (by decide) (by decide)) (by decide) (by decide))) ?_
        refine ev_r_jn (Q := fun K => ∀ (s48 : ev_St) (w38 : List (Nat × Value)), ev_lk w38 0 = some (.ref 269) → ev_lk w38 1 = some (ev_nv a0) → ev_lk w38 2 = some (ev_nv a1) → ev_lk w38 3 = some (.int (Int32.ofInt a2)) → ev_lk w38 4 = some (.int (Int32.ofInt x2)) → ev_lk w38 5 = some (.int (Int32.ofInt x3)) → ev_lk w38 6 = some (.int (Int32.ofInt x19)) → ev_lk w38 7 = some (.int (Int32.ofInt x4)) → ev_lk w38 8 = some (.int (Int32.ofInt x22)) → ev_w none (ev_Mof 50) d 113 w38 [] s48 (K  s48) ev_eU ev_PU) ?_ ?_
        · intro  s48 w38 e39 e40 e41 e42 e43 e44 e45 e46 e47
          refine ev_r_iload (pc := 113) (k := 4) (v := Int32.ofInt x2) (by decide +kernel) (by exact e43) ?_
          refine ev_r_jn (Q := fun K => ∀ (s58 : ev_St) (w49 : List (Nat × Value)), ev_lk w49 0 = some (.ref 269) → ev_lk w49 1 = some (ev_nv a0) → ev_lk w49 2 = some (ev_nv a1) → ev_lk w49 3 = some (.int (Int32.ofInt a2)) → ev_lk w49 4 = some (.int (Int32.ofInt x2)) → ev_lk w49 5 = some (.int (Int32.ofInt x3)) → ev_lk w49 6 = some (.int (Int32.ofInt x19)) → ev_lk w49 7 = some (.int (Int32.ofInt x4)) → ev_w none (ev_Mof 50) d 134 w49 [] s58 (K  s58) ev_eU ev_PU) ?_ ?_
          · intro  s58 w49 e50 e51 e52 e53 e54 e55 e56 e57
            refine ev_r_iload (pc := 134) (k := 5) (v := Int32.ofInt x3) (by decide +kernel) (by exact e55) ?_
            refine ev_r_if (pc := 136) (q := .eq) (o := 12) (t := 148) (c := x3 = 0) (by decide +kernel) (ev_k_eq hx3 ev_rng0) (by decide +kernel) ?_ ?_
            · intro c59
              exact hK148 x2 hx2 x3 hx3 x19 hx19 s58 _ (by exact e50) (by exact e51) (by exact e52) (by exact e53) (by exact e54) (by exact e55) (by exact e56) (by exact e57)
            · intro c59
              refine ev_r_aload_n (pc := 139) (k := 0) (v := .ref 269) trivial (by decide +kernel) (by exact e50) ?_
              refine ev_r_aload_n (pc := 140) (k := 1) (v := ev_nv a0) (ev_isR_nv _) (by decide +kernel) (by exact e51) ?_
              refine ev_r_iload (pc := 141) (k := 7) (v := Int32.ofInt x4) (by decide +kernel) (by exact e57) ?_
              refine ev_r_aload_n (pc := 143) (k := 2) (v := ev_nv a1) (ev_isR_nv _) (by decide +kernel) (by exact e52) ?_
              refine ev_r_iload_n (pc := 144) (k := 3) (v := Int32.ofInt a2) (by decide +kernel) (by exact e53) ?_
              refine ev_r_virt (pc := 145) (y := 132) (mi := 51) (na := 4) (k := 269) (as := [ev_nv a0, .int (Int32.ofInt x4), ev_nv a1, .int (Int32.ofInt a2)]) (rest := []) (encc := ev_oU) (Q := ev_PU) (fun x S1 h => jt_51 d (by omega) Q a0 x4 a1 a2 (by exact ha0) hx4 (by exact ha1) ha2 s58 x S1 h) (by exact ev_ob_269) (by decide +kernel) (by decide +kernel) (by decide +kernel) (by decide +kernel) rfl (by (try simp only [ev_sum, ev_nv_cat]); first | done | rfl) ?_
              intro _ s60 _
              show ev_w _ _ _ _ _ [] _ _ _ _
              exact hK148 x2 hx2 x3 hx3 x19 hx19 s60 _ (by exact e50) (by exact e51) (by exact e52) (by exact e53) (by exact e54) (by exact e55) (by exact e56) (by exact e57)
          · intro K134 hK134
            refine ev_r_if (pc := 115) (q := .eq) (o := 19) (t := 134) (c := x2 = 0) (by decide +kernel) (ev_k_eq hx2 ev_rng0) (by decide +kernel) ?_ ?_
            · intro c61
              exact hK134  s48 _ (by exact e39) (by exact e40) (by exact e41) (by exact e42) (by exact e43) (by exact e44) (by exact e45) (by exact e46)
            · intro c61
              refine ev_r_iload (pc := 118) (k := 8) (v := Int32.ofInt x22) (by decide +kernel) (by exact e47) ?_
              refine ev_r_bipush (pc := 120) (k := 125) (by decide +kernel) (by decide +kernel) ?_
              refine ev_r_icmp (pc := 122) (q := .ne) (o := 12) (t := 134) (c := x22 ≠ 125) (by decide +kernel) (ev_k_ne hx22 (by decide)) (by decide +kernel) ?_ ?_
              · intro c62
                exact hK134  s48 _ (by exact e39) (by exact e40) (by exact e41) (by exact e42) (by exact e43) (by exact e44) (by exact e45) (by exact e46)
              · intro c62
                refine ev_r_iconst (pc := 125) (k := 0) (by decide +kernel) ?_
                refine ev_r_istore (pc := 126) (k := 4) (by decide +kernel) (by decide +kernel) rfl ?_
                refine ev_r_iconst (pc := 128) (k := 1) (by decide +kernel) ?_
                refine ev_r_istore (pc := 129) (k := 5) (by decide +kernel) (by decide +kernel) rfl ?_
                refine ev_r_goto (pc := 131) (o := 17) (t := 148) (by decide +kernel) (by decide +kernel) ?_
                exact hK148 0 (by decide) 1 (by decide) x19 hx19 s48 _ (by exact (ev_l1 (ev_l1 e39 (by decide) (by decide)) (by decide) (by decide))) (by exact (ev_l1 (ev_l1 e40 (by decide) (by decide)) (by decide) (by decide))) (by exact (ev_l1 (ev_l1 e41 (by decide) (by decide)) (by decide) (by decide))) (by exact (ev_l1 (ev_lk_st1 e42 (by decide) rfl) (by decide) (by decide))) (by exact (ev_lk_st1 ev_lk_st1_self (by decide) rfl)) (by exact ev_lk_st1_self) (by exact (ev_l1 (ev_l1 e45 (by decide) (by decide)) (by decide) (by decide))) (by exact (ev_l1 (ev_l1 e46 (by decide) (by decide)) (by decide) (by decide)))
        · intro K113 hK113
          refine ev_r_if (pc := 88) (q := .eq) (o := 25) (t := 113) (c := x2 = 0) (by decide +kernel) (ev_k_eq hx2 ev_rng0) (by decide +kernel) ?_ ?_
          · intro c63
            exact hK113  s21 _ (by exact (ev_l1 (ev_l1 e6 (by decide) (by decide)) (by decide) (by decide))) (by exact (ev_l1 (ev_l1 e7 (by decide) (by decide)) (by decide) (by decide))) (by exact (ev_l1 (ev_l1 e8 (by decide) (by decide)) (by decide) (by decide))) (by exact (ev_l1 (ev_l1 e9 (by decide) (by decide)) (by decide) (by decide))) (by exact (ev_l1 (ev_l1 e10 (by decide) (by decide)) (by decide) (by decide))) (by exact (ev_l1 (ev_lk_st1 e11 (by decide) rfl) (by decide) (by decide))) (by exact (ev_l1 ev_lk_st1_self (by decide) (by decide))) (by exact (ev_lk_st1 (ev_l1 e12 (by decide) (by decide)) (by decide) rfl)) (by exact ev_lk_st1_self)
          · intro c63
            refine ev_r_iload (pc := 91) (k := 8) (v := Int32.ofInt x22) (by decide +kernel) (by exact ev_lk_st1_self) ?_
            refine ev_r_bipush (pc := 93) (k := 124) (by decide +kernel) (by decide +kernel) ?_
            refine ev_r_icmp (pc := 95) (q := .ne) (o := 18) (t := 113) (c := x22 ≠ 124) (by decide +kernel) (ev_k_ne hx22 (by decide)) (by decide +kernel) ?_ ?_
            · intro c64
              exact hK113  s21 _ (by exact (ev_l1 (ev_l1 e6 (by decide) (by decide)) (by decide) (by decide))) (by exact (ev_l1 (ev_l1 e7 (by decide) (by decide)) (by decide) (by decide))) (by exact (ev_l1 (ev_l1 e8 (by decide) (by decide)) (by decide) (by decide))) (by exact (ev_l1 (ev_l1 e9 (by decide) (by decide)) (by decide) (by decide))) (by exact (ev_l1 (ev_l1 e10 (by decide) (by decide)) (by decide) (by decide))) (by exact (ev_l1 (ev_lk_st1 e11 (by decide) rfl) (by decide) (by decide))) (by exact (ev_l1 ev_lk_st1_self (by decide) (by decide))) (by exact (ev_lk_st1 (ev_l1 e12 (by decide) (by decide)) (by decide) rfl)) (by exact ev_lk_st1_self)
            · intro c64
              refine ev_r_iload (pc := 98) (k := 5) (v := Int32.ofInt x3) (by decide +kernel) (by exact (ev_l1 (ev_lk_st1 e11 (by decide) rfl) (by decide) (by decide))) ?_
              refine ev_r_jn (Q := fun K => ∀ (x65 : Int) (hx65 : ev_rng x65), ∀ (s74 : ev_St) (w66 : List (Nat × Value)), ev_lk w66 0 = some (.ref 269) → ev_lk w66 1 = some (ev_nv a0) → ev_lk w66 2 = some (ev_nv a1) → ev_lk w66 3 = some (.int (Int32.ofInt a2)) → ev_lk w66 4 = some (.int (Int32.ofInt x2)) → ev_lk w66 6 = some (.int (Int32.ofInt x19)) → ev_lk w66 7 = some (.int (Int32.ofInt x4)) → ev_w none (ev_Mof 50) d 108 w66 [.int (Int32.ofInt x65)] s74 (K x65 s74) ev_eU ev_PU) ?_ ?_
              · intro x65 hx65 s74 w66 e67 e68 e69 e70 e71 e72 e73
                refine ev_r_istore (pc := 108) (k := 5) (by decide +kernel) (by decide +kernel) rfl ?_
                refine ev_r_goto (pc := 110) (o := 38) (t := 148) (by decide +kernel) (by decide +kernel) ?_
                exact hK148 x2 hx2 x65 hx65 x19 hx19 s74 _ (by exact (ev_l1 e67 (by decide) (by decide))) (by exact (ev_l1 e68 (by decide) (by decide))) (by exact (ev_l1 e69 (by decide) (by decide))) (by exact (ev_l1 e70 (by decide) (by decide))) (by exact (ev_lk_st1 e71 (by decide) rfl)) (by exact ev_lk_st1_self) (by exact (ev_l1 e72 (by decide) (by decide))) (by exact (ev_l1 e73 (by decide) (by decide)))
              · intro K108 hK108
                refine ev_r_if (pc := 100) (q := .ne) (o := 7) (t := 107) (c := x3 ≠ 0) (by decide +kernel) (ev_k_ne hx3 ev_rng0) (by decide +kernel) ?_ ?_
                · intro c75
                  refine ev_r_iconst (pc := 107) (k := 0) (by decide +kernel) ?_
                  exact hK108 0 (by decide) s21 _ (by exact (ev_l1 (ev_l1 e6 (by decide) (by decide)) (by decide) (by decide))) (by exact (ev_l1 (ev_l1 e7 (by decide) (by decide)) (by decide) (by decide))) (by exact (ev_l1 (ev_l1 e8 (by decide) (by decide)) (by decide) (by decide))) (by exact (ev_l1 (ev_l1 e9 (by decide) (by decide)) (by decide) (by decide))) (by exact (ev_l1 (ev_l1 e10 (by decide) (by decide)) (by decide) (by decide))) (by exact (ev_l1 ev_lk_st1_self (by decide) (by decide))) (by exact (ev_lk_st1 (ev_l1 e12 (by decide) (by decide)) (by decide) rfl))
                · intro c75
                  refine ev_r_iconst (pc := 103) (k := 1) (by decide +kernel) ?_
                  refine ev_r_goto (pc := 104) (o := 4) (t := 108) (by decide +kernel) (by decide +kernel) ?_
                  exact hK108 1 (by decide) s21 _ (by exact (ev_l1 (ev_l1 e6 (by decide) (by decide)) (by decide) (by decide))) (by exact (ev_l1 (ev_l1 e7 (by decide) (by decide)) (by decide) (by decide))) (by exact (ev_l1 (ev_l1 e8 (by decide) (by decide)) (by decide) (by decide))) (by exact (ev_l1 (ev_l1 e9 (by decide) (by decide)) (by decide) (by decide))) (by exact (ev_l1 (ev_l1 e10 (by decide) (by decide)) (by decide) (by decide))) (by exact (ev_l1 ev_lk_st1_self (by decide) (by decide))) (by exact (ev_lk_st1 (ev_l1 e12 (by decide) (by decide)) (by decide) rfl))
      · intro c37
        refine ev_r_iconst (pc := 55) (k := 1) (by decide +kernel) ?_
        refine ev_r_istore (pc := 56) (k := 4) (by decide +kernel) (by decide +kernel) rfl ?_
        refine ev_r_aload_n (pc := 58) (k := 2) (v := ev_nv a1) (ev_isR_nv _) (by decide +kernel) (by exact (ev_l1 (ev_l1 (ev_l1 e8 (by decide) (by decide)) (by decide) (by decide)) (by decide) (by decide))) ?_
        refine ev_r_aload_n (pc := 59) (k := 1) (v := ev_nv a0) (ev_isR_nv _) (by decide +kernel) (by exact (ev_l1 (ev_l1 (ev_l1 e7 (by decide) (by decide)) (by decide) (by decide)) (by decide) (by decide))) ?_
        refine ev_r_iload (pc := 60) (k := 7) (v := Int32.ofInt x4) (by decide +kernel) (by exact (ev_l1 (ev_lk_st1 (ev_l1 e12 (by decide) (by decide)) (by decide) rfl) (by decide) (by decide))) ?_
        refine ev_r_iconst (pc := 62) (k := 1) (by decide +kernel) ?_
        refine ev_r_iadd (pc := 63) (by decide +kernel) ?_
        intro x76 hx76
        refine ev_r_chk ?_
        intro c77
        refine ev_r_dr (r := a0) (fun v => [.int (Int32.ofInt x76), v, ev_nv a1]) c77 ?_
        refine ev_r_virt (pc := 64) (y := 109) (mi := 151) (na := 1) (k := (a0 - 1)) (as := [.int (Int32.ofInt x76)]) (rest := [ev_nv a1]) (encc := ev_oI) (Q := ev_rng) (fun x S1 h => jt_151 d (by omega) Q ((a0 - 1)) x76 (ha0.resolve_left c77) hx76 s21 x S1 h) (by exact (ha0.resolve_left c77)) (by decide +kernel) (by decide +kernel) (by decide +kernel) (by decide +kernel) rfl (by (try simp only [ev_sum, ev_nv_cat]); first | done | rfl) ?_
        intro x79 s78 hx79
        show ev_w _ _ _ _ _ [.int (Int32.ofInt x79), ev_nv a1] _ _ _ _
        refine ev_r_bipush (pc := 67) (k := 48) (by decide +kernel) (by decide +kernel) ?_
        refine ev_r_isub (pc := 69) (by decide +kernel) ?_
        intro x80 hx80
        refine ev_r_chk ?_
        intro c81
        refine ev_r_dr2 (r := a1) (k := 281) (fun v => [.int (Int32.ofInt x80), v]) c81 (ev_on_8 (ha1.resolve_left c81)) ?_
        refine ev_r_virt (pc := 70) (y := 129) (mi := 118) (na := 1) (k := 281) (as := [.int (Int32.ofInt x80)]) (rest := []) (encc := ev_oI) (Q := ev_rng) (fun x S1 h => jt_118 d (by omega) Q x80 hx80 s78 x S1 h) (by exact ev_ob_281) (by decide +kernel) (by decide +kernel) (by decide +kernel) (by decide +kernel) rfl (by (try simp only [ev_sum, ev_nv_cat]); first | done | rfl) ?_
        intro x83 s82 hx83
        show ev_w _ _ _ _ _ [.int (Int32.ofInt x83)] _ _ _ _
        refine ev_r_jn (Q := fun K => ∀ (x84 : Int) (hx84 : ev_rng x84), ∀ (x85 : Int) (hx85 : ev_rng x85), ∀ (s94 : ev_St) (w86 : List (Nat × Value)), ev_lk w86 0 = some (.ref 269) → ev_lk w86 1 = some (ev_nv a0) → ev_lk w86 2 = some (ev_nv a1) → ev_lk w86 3 = some (.int (Int32.ofInt a2)) → ev_lk w86 4 = some (.int (Int32.ofInt x84)) → ev_lk w86 6 = some (.int (Int32.ofInt x19)) → ev_lk w86 7 = some (.int (Int32.ofInt x4)) → ev_w none (ev_Mof 50) d 81 w86 [.int (Int32.ofInt x85)] s94 (K x84 x85 s94) ev_eU ev_PU) ?_ ?_
        · intro x84 hx84 x85 hx85 s94 w86 e87 e88 e89 e90 e91 e92 e93
          refine ev_r_istore (pc := 81) (k := 5) (by decide +kernel) (by decide +kernel) rfl ?_
          refine ev_r_goto (pc := 83) (o := 65) (t := 148) (by decide +kernel) (by decide +kernel) ?_
          exact hK148 x84 hx84 x85 hx85 x19 hx19 s94 _ (by exact (ev_l1 e87 (by decide) (by decide))) (by exact (ev_l1 e88 (by decide) (by decide))) (by exact (ev_l1 e89 (by decide) (by decide))) (by exact (ev_l1 e90 (by decide) (by decide))) (by exact (ev_lk_st1 e91 (by decide) rfl)) (by exact ev_lk_st1_self) (by exact (ev_l1 e92 (by decide) (by decide))) (by exact (ev_l1 e93 (by decide) (by decide)))
        · intro K81 hK81
          refine ev_r_if (pc := 73) (q := .lt) (o := 7) (t := 80) (c := x83 < 0) (by decide +kernel) (ev_k_lt hx83 ev_rng0) (by decide +kernel) ?_ ?_
          · intro c95
            refine ev_r_iconst (pc := 80) (k := 0) (by decide +kernel) ?_
            exact hK81 1 (by decide) 0 (by decide) s82 _ (by exact (ev_l1 (ev_l1 (ev_l1 e6 (by decide) (by decide)) (by decide) (by decide)) (by decide) (by decide))) (by exact (ev_l1 (ev_l1 (ev_l1 e7 (by decide) (by decide)) (by decide) (by decide)) (by decide) (by decide))) (by exact (ev_l1 (ev_l1 (ev_l1 e8 (by decide) (by decide)) (by decide) (by decide)) (by decide) (by decide))) (by exact (ev_lk_st1 (ev_l1 (ev_l1 e9 (by decide) (by decide)) (by decide) (by decide)) (by decide) rfl)) (by exact ev_lk_st1_self) (by exact (ev_l1 (ev_l1 ev_lk_st1_self (by decide) (by decide)) (by decide) (by decide))) (by exact (ev_l1 (ev_lk_st1 (ev_l1 e12 (by decide) (by decide)) (by decide) rfl) (by decide) (by decide)))
          · intro c95
            refine ev_r_iconst (pc := 76) (k := 1) (by decide +kernel) ?_
            refine ev_r_goto (pc := 77) (o := 4) (t := 81) (by decide +kernel) (by decide +kernel) ?_
            exact hK81 1 (by decide) 1 (by decide) s82 _ (by exact (ev_l1 (ev_l1 (ev_l1 e6 (by decide) (by decide)) (by decide) (by decide)) (by decide) (by decide))) (by exact (ev_l1 (ev_l1 (ev_l1 e7 (by decide) (by decide)) (by decide) (by decide)) (by decide) (by decide))) (by exact (ev_l1 (ev_l1 (ev_l1 e8 (by decide) (by decide)) (by decide) (by decide)) (by decide) (by decide))) (by exact (ev_lk_st1 (ev_l1 (ev_l1 e9 (by decide) (by decide)) (by decide) (by decide)) (by decide) rfl)) (by exact ev_lk_st1_self) (by exact (ev_l1 (ev_l1 ev_lk_st1_self (by decide) (by decide)) (by decide) (by decide))) (by exact (ev_l1 (ev_lk_st1 (ev_l1 e12 (by decide) (by decide)) (by decide) rfl) (by decide) (by decide)))
theorem jlt_50_17 (d : Nat) (hd : 6 ≤ d + 1) (Q : Nat) (a0 : Nat) (a1 : Nat) (a2 : Int) (ha0 : a0 = 0 ∨ ev_isOb (a0 - 1) 10 = true) (ha1 : a1 = 0 ∨ ev_isOb (a1 - 1) 8 = true) (ha2 : ev_rng a2)   : ∀ q : Nat, ∀ (x2 : Int) (hx2 : ev_rng x2), ∀ (x3 : Int) (hx3 : ev_rng x3), ∀ (x4 : Int) (hx4 : ev_rng x4), ∀ (s13 : ev_St) (w5 : List (Nat × Value)), ev_lk w5 0 = some (.ref 269) → ev_lk w5 1 = some (ev_nv a0) → ev_lk w5 2 = some (ev_nv a1) → ev_lk w5 3 = some (.int (Int32.ofInt a2)) → ev_lk w5 4 = some (.int (Int32.ofInt x2)) → ev_lk w5 5 = some (.int (Int32.ofInt x3)) → ev_lk w5 7 = some (.int (Int32.ofInt x4)) → ev_w none (ev_Mof 50) d 17 w5 [] s13 (jl_50_17 Q a0 a1 a2  q x2 x3 x4 s13) ev_eU ev_PU := by
  intro q
  induction q with
  | zero =>
    intro x2 hx2 x3 hx3 x4 hx4 s13 w5 e6 e7 e8 e9 e10 e11 e12
    exact ev_w_none
  | succ q ih => exact jbt_50_17 d hd Q a0 a1 a2 ha0 ha1 ha2   _ ih
/-- MendBench$Mender.fillIn(LMendBench$Text;LMendBench$Search;I)V -/
def jm_50 (Q : Nat) (a0 : Nat) (a1 : Nat) (a2 : Int) (S : ev_St) : Option ((Unit) × ev_St) := ev_b (ev_pI S 269 11 0) fun s1 => jl_50_17 Q a0 a1 a2  Q 0 1 0 s1
theorem jt_50 (d : Nat) (hd : 6 ≤ d) (Q : Nat) (a0 : Nat) (a1 : Nat) (a2 : Int) (ha0 : a0 = 0 ∨ ev_isOb (a0 - 1) 10 = true) (ha1 : a1 = 0 ∨ ev_isOb (a1 - 1) 8 = true) (ha2 : ev_rng a2) (S : ev_St) (x : Unit) (S' : ev_St) (hJ : jm_50 Q a0 a1 a2 S = some (x, S')) : ev_Ref d 50 [.ref 269, ev_nv a0, ev_nv a1, .int (Int32.ofInt a2)] S (ev_eU x) S' (ev_PU x) := by
  obtain ⟨d, rfl⟩ : ∃ e, d = e + 1 := ⟨d - 1, by omega⟩
  refine ev_ref_of (P := ev_PU) (lv := [(0, .ref 269), (1, ev_nv a0), (2, ev_nv a1), (3, .int (Int32.ofInt a2))]) (by decide +kernel) (by (try simp only [ev_sum, ev_nv_cat]); first | done | rfl) (by (try simp only [lv_args, ev_nv_cat]); first | done | rfl) ?_ x S' hJ
  unfold jm_50
  refine ev_r_aload_n (pc := 0) (k := 0) (v := .ref 269) trivial (by decide +kernel) (by rfl) ?_
  refine ev_r_iconst (pc := 1) (k := 0) (by decide +kernel) ?_
  refine ev_r_putI (pc := 2) (y := 123) (ci := 3) (f := 11) (by decide) (by decide +kernel) (by decide +kernel) (by exact ev_ob_269) rfl rfl ?_
  intro s1
  refine ev_r_iconst (pc := 5) (k := 0) (by decide +kernel) ?_
  refine ev_r_istore (pc := 6) (k := 4) (by decide +kernel) (by decide +kernel) rfl ?_
  refine ev_r_iconst (pc := 8) (k := 1) (by decide +kernel) ?_
  refine ev_r_istore (pc := 9) (k := 5) (by decide +kernel) (by decide +kernel) rfl ?_
  refine ev_r_iconst (pc := 11) (k := 1) (by decide +kernel) ?_
  refine ev_r_istore (pc := 12) (k := 6) (by decide +kernel) (by decide +kernel) rfl ?_
  refine ev_r_iconst (pc := 14) (k := 0) (by decide +kernel) ?_
  refine ev_r_istore (pc := 15) (k := 7) (by decide +kernel) (by decide +kernel) rfl ?_
  exact jlt_50_17 d hd Q a0 a1 a2 ha0 ha1 ha2   Q 0 (by decide) 1 (by decide) 0 (by decide) s1 _ (by exact (ev_l1 (ev_l1 (ev_l1 (ev_l1 (by rfl) (by decide) (by decide)) (by decide) (by decide)) (by decide) (by decide)) (by decide) (by decide))) (by exact (ev_l1 (ev_l1 (ev_l1 (ev_l1 (by rfl) (by decide) (by decide)) (by decide) (by decide)) (by decide) (by decide)) (by decide) (by decide))) (by exact (ev_l1 (ev_l1 (ev_l1 (ev_l1 (by rfl) (by decide) (by decide)) (by decide) (by decide)) (by decide) (by decide)) (by decide) (by decide))) (by exact (ev_l1 (ev_l1 (ev_l1 (ev_lk_st1 (by rfl) (by decide) rfl) (by decide) (by decide)) (by decide) (by decide)) (by decide) (by decide))) (by exact (ev_l1 (ev_l1 (ev_lk_st1 ev_lk_st1_self (by decide) rfl) (by decide) (by decide)) (by decide) (by decide))) (by exact (ev_l1 (ev_lk_st1 ev_lk_st1_self (by decide) rfl) (by decide) (by decide))) (by exact ev_lk_st1_self)
/-- MendBench$Search.nextFrom()I -/
def jm_117 (Q : Nat)  (S : ev_St) : Option ((Int) × ev_St) := ev_b (S.1 281 12) fun x1 => ev_b (S.1 281 11) fun x2 => if x1 ≤ x2 then (ev_b (S.1 281 12) fun x4 => ev_ck (x4 + 1) fun x5 => some (x5, S)) else (ev_b (S.1 281 12) fun x6 => some (x6, S))
theorem jt_117 (d : Nat) (hd : 1 ≤ d) (Q : Nat)   (S : ev_St) (x : Int) (S' : ev_St) (hJ : jm_117 Q  S = some (x, S')) : ev_Ref d 117 [.ref 281] S (ev_eI x) S' (ev_rng x) := by
  obtain ⟨d, rfl⟩ : ∃ e, d = e + 1 := ⟨d - 1, by omega⟩
  refine ev_ref_of (P := ev_rng) (lv := [(0, .ref 281)]) (by decide +kernel) (by (try simp only [ev_sum, ev_nv_cat]); first | done | rfl) (by (try simp only [lv_args, ev_nv_cat]); first | done | rfl) ?_ x S' hJ
  unfold jm_117
  refine ev_r_aload_n (pc := 0) (k := 0) (v := .ref 281) trivial (by decide +kernel) (by rfl) ?_
  refine ev_r_getI (pc := 1) (y := 46) (ci := 8) (f := 12) (fin := 0) (by decide +kernel) (by decide +kernel) (by exact ev_ob_281) rfl ?_
  intro x1 hx1
  refine ev_r_aload_n (pc := 4) (k := 0) (v := .ref 281) trivial (by decide +kernel) (by rfl) ?_
  refine ev_r_getI (pc := 5) (y := 43) (ci := 8) (f := 11) (fin := 0) (by decide +kernel) (by decide +kernel) (by exact ev_ob_281) rfl ?_
  intro x2 hx2
  refine ev_r_icmp (pc := 8) (q := .le) (o := 10) (t := 18) (c := x1 ≤ x2) (by decide +kernel) (ev_k_le hx1 hx2) (by decide +kernel) ?_ ?_
  · intro c3
    refine ev_r_aload_n (pc := 18) (k := 0) (v := .ref 281) trivial (by decide +kernel) (by rfl) ?_
    refine ev_r_getI (pc := 19) (y := 46) (ci := 8) (f := 12) (fin := 0) (by decide +kernel) (by decide +kernel) (by exact ev_ob_281) rfl ?_
    intro x4 hx4
    refine ev_r_iconst (pc := 22) (k := 1) (by decide +kernel) ?_
    refine ev_r_iadd (pc := 23) (by decide +kernel) ?_
    intro x5 hx5
    exact ev_r_ireturn (pc := 24) (x := x5) (v := Int32.ofInt x5) (ty := .int) hx5 (by decide +kernel) (by decide +kernel) rfl rfl
  · intro c3
    refine ev_r_aload_n (pc := 11) (k := 0) (v := .ref 281) trivial (by decide +kernel) (by rfl) ?_
    refine ev_r_getI (pc := 12) (y := 46) (ci := 8) (f := 12) (fin := 0) (by decide +kernel) (by decide +kernel) (by exact ev_ob_281) rfl ?_
    intro x6 hx6
    refine ev_r_goto (pc := 15) (o := 9) (t := 24) (by decide +kernel) (by decide +kernel) ?_
    exact ev_r_ireturn (pc := 24) (x := x6) (v := Int32.ofInt x6) (ty := .int) hx6 (by decide +kernel) (by decide +kernel) rfl rfl
/-- MendBench$Mender.addEdit(IIII)V -/
def jm_46 (Q : Nat) (a0 : Int) (a1 : Int) (a2 : Int) (a3 : Int) (S : ev_St) : Option ((Unit) × ev_St) := ev_jn (fun (x1 : Int) (s8 : ev_St) => if x1 = 0 then (some ((), s8)) else (ev_b (s8.1 269 9) fun x10 => if x10 < 0 then (some ((), s8)) else (ev_b (s8.1 269 9) fun x12 => if 820 ≤ x12 then (some ((), s8)) else (ev_b (s8.1 269 10) fun x14 => if x14 < 0 then (some ((), s8)) else (ev_b (s8.1 269 10) fun x16 => ev_ck (x16 + a3) fun x17 => if x17 ≤ 800 then (ev_b (s8.1 269 9) fun x19 => ev_if ((0 : Int) ≤ x19 ∧ x19 < (ev_aln 277 : Int)) (ev_b (ev_pI s8 277 (Int.toNat x19) a0) fun s20 => ev_b (s20.1 269 9) fun x21 => ev_if ((0 : Int) ≤ x21 ∧ x21 < (ev_aln 278 : Int)) (ev_b (ev_pI s20 278 (Int.toNat x21) a1) fun s22 => ev_b (s22.1 269 9) fun x23 => ev_if ((0 : Int) ≤ x23 ∧ x23 < (ev_aln 279 : Int)) (ev_b (ev_pI s22 279 (Int.toNat x23) a3) fun s24 => ev_b (s24.1 269 10) fun x25 => ev_if ((0 : Int) ≤ a2 ∧ (0 : Int) ≤ x25 ∧ (0 : Int) ≤ a3 ∧ a2 + a3 ≤ (ev_aln 273 : Int) ∧ x25 + a3 ≤ (ev_aln 280 : Int)) (ev_b (ev_cpI s24 273 280 (Int.toNat a2) (Int.toNat x25) (Int.toNat a3)) fun s26 => ev_b (s26.1 269 9) fun x27 => ev_ck (x27 + 1) fun x28 => ev_b (ev_pI s26 269 9 x28) fun s29 => ev_b (s29.1 269 10) fun x30 => ev_ck (x30 + a3) fun x31 => ev_b (ev_pI s29 269 10 x31) fun s32 => some ((), s32)))))) else (some ((), s8))))))) fun K29 => ev_jn (fun  (s39 : ev_St) => K29 0 s39) fun K28 => if a2 < 0 then (K28  S) else (if a3 < 0 then (K28  S) else (ev_ck (a2 + a3) fun x42 => ev_b (ev_aln 273 : Int) fun x43 => if x43 < x42 then (K28  S) else (K29 1 S)))
theorem jt_46 (d : Nat) (hd : 1 ≤ d) (Q : Nat) (a0 : Int) (a1 : Int) (a2 : Int) (a3 : Int) (ha0 : ev_rng a0) (ha1 : ev_rng a1) (ha2 : ev_rng a2) (ha3 : ev_rng a3) (S : ev_St) (x : Unit) (S' : ev_St) (hJ : jm_46 Q a0 a1 a2 a3 S = some (x, S')) : ev_Ref d 46 [.ref 269, .int (Int32.ofInt a0), .int (Int32.ofInt a1), .int (Int32.ofInt a2), .int (Int32.ofInt a3)] S (ev_eU x) S' (ev_PU x) := by
  obtain ⟨d, rfl⟩ : ∃ e, d = e + 1 := ⟨d - 1, by omega⟩
  refine ev_ref_of (P := ev_PU) (lv := [(0, .ref 269), (1, .int (Int32.ofInt a0)), (2, .int (Int32.ofInt a1)), (3, .int (Int32.ofInt a2)), (4, .int (Int32.ofInt a3))]) (by decide +kernel) (by (try simp only [ev_sum, ev_nv_cat]); first | done | rfl) (by (try simp only [lv_args, ev_nv_cat]); first | done | rfl) ?_ x S' hJ
  unfold jm_46
  refine ev_r_iload_n (pc := 0) (k := 3) (v := Int32.ofInt a2) (by decide +kernel) (by rfl) ?_
  refine ev_r_jn (Q := fun K => ∀ (x1 : Int) (hx1 : ev_rng x1), ∀ (s8 : ev_St) (w2 : List (Nat × Value)), ev_lk w2 0 = some (.ref 269) → ev_lk w2 1 = some (.int (Int32.ofInt a0)) → ev_lk w2 2 = some (.int (Int32.ofInt a1)) → ev_lk w2 3 = some (.int (Int32.ofInt a2)) → ev_lk w2 4 = some (.int (Int32.ofInt a3)) → ev_w none (ev_Mof 46) d 29 w2 [.int (Int32.ofInt x1)] s8 (K x1 s8) ev_eU ev_PU) ?_ ?_
  · intro x1 hx1 s8 w2 e3 e4 e5 e6 e7
    refine ev_r_istore (pc := 29) (k := 5) (by decide +kernel) (by decide +kernel) rfl ?_
    refine ev_r_iload (pc := 31) (k := 5) (v := Int32.ofInt x1) (by decide +kernel) (by exact ev_lk_st1_self) ?_
    refine ev_r_if (pc := 33) (q := .eq) (o := 40) (t := 73) (c := x1 = 0) (by decide +kernel) (ev_k_eq hx1 ev_rng0) (by decide +kernel) ?_ ?_
    · intro c9
      exact ev_r_return (pc := 73) (x := ()) trivial (by decide +kernel) (by decide +kernel) rfl
    · intro c9
      refine ev_r_aload_n (pc := 36) (k := 0) (v := .ref 269) trivial (by decide +kernel) (by exact (ev_l1 e3 (by decide) (by decide))) ?_
      refine ev_r_getI (pc := 37) (y := 47) (ci := 3) (f := 9) (fin := 0) (by decide +kernel) (by decide +kernel) (by exact ev_ob_269) rfl ?_
      intro x10 hx10
      refine ev_r_if (pc := 40) (q := .lt) (o := 33) (t := 73) (c := x10 < 0) (by decide +kernel) (ev_k_lt hx10 ev_rng0) (by decide +kernel) ?_ ?_
      · intro c11
        exact ev_r_return (pc := 73) (x := ()) trivial (by decide +kernel) (by decide +kernel) rfl
      · intro c11
        refine ev_r_aload_n (pc := 43) (k := 0) (v := .ref 269) trivial (by decide +kernel) (by exact (ev_l1 e3 (by decide) (by decide))) ?_
        refine ev_r_getI (pc := 44) (y := 47) (ci := 3) (f := 9) (fin := 0) (by decide +kernel) (by decide +kernel) (by exact ev_ob_269) rfl ?_
        intro x12 hx12
        refine ev_r_sipush (pc := 47) (k := 820) (by decide +kernel) (by decide +kernel) ?_
        refine ev_r_icmp (pc := 50) (q := .ge) (o := 23) (t := 73) (c := 820 ≤ x12) (by decide +kernel) (ev_k_ge hx12 (by decide)) (by decide +kernel) ?_ ?_
        · intro c13
          exact ev_r_return (pc := 73) (x := ()) trivial (by decide +kernel) (by decide +kernel) rfl
        · intro c13
          refine ev_r_aload_n (pc := 53) (k := 0) (v := .ref 269) trivial (by decide +kernel) (by exact (ev_l1 e3 (by decide) (by decide))) ?_
          refine ev_r_getI (pc := 54) (y := 51) (ci := 3) (f := 10) (fin := 0) (by decide +kernel) (by decide +kernel) (by exact ev_ob_269) rfl ?_
          intro x14 hx14
          refine ev_r_if (pc := 57) (q := .lt) (o := 16) (t := 73) (c := x14 < 0) (by decide +kernel) (ev_k_lt hx14 ev_rng0) (by decide +kernel) ?_ ?_
          · intro c15
            exact ev_r_return (pc := 73) (x := ()) trivial (by decide +kernel) (by decide +kernel) rfl
          · intro c15
            refine ev_r_aload_n (pc := 60) (k := 0) (v := .ref 269) trivial (by decide +kernel) (by exact (ev_l1 e3 (by decide) (by decide))) ?_
            refine ev_r_getI (pc := 61) (y := 51) (ci := 3) (f := 10) (fin := 0) (by decide +kernel) (by decide +kernel) (by exact ev_ob_269) rfl ?_
            intro x16 hx16
            refine ev_r_iload (pc := 64) (k := 4) (v := Int32.ofInt a3) (by decide +kernel) (by exact (ev_lk_st1 e7 (by decide) rfl)) ?_
            refine ev_r_iadd (pc := 66) (by decide +kernel) ?_
            intro x17 hx17
            refine ev_r_sipush (pc := 67) (k := 800) (by decide +kernel) (by decide +kernel) ?_
            refine ev_r_icmp (pc := 70) (q := .le) (o := 4) (t := 74) (c := x17 ≤ 800) (by decide +kernel) (ev_k_le hx17 (by decide)) (by decide +kernel) ?_ ?_
            · intro c18
              refine ev_r_aload_n (pc := 74) (k := 0) (v := .ref 269) trivial (by decide +kernel) (by exact (ev_l1 e3 (by decide) (by decide))) ?_
              refine ev_r_getC (pc := 75) (y := 31) (ci := 3) (f := 5) (fin := 1) (k' := 277) (by decide +kernel) (by decide +kernel) (by exact ev_ob_269) rfl rfl ?_
              refine ev_r_aload_n (pc := 78) (k := 0) (v := .ref 269) trivial (by decide +kernel) (by exact (ev_l1 e3 (by decide) (by decide))) ?_
              refine ev_r_getI (pc := 79) (y := 47) (ci := 3) (f := 9) (fin := 0) (by decide +kernel) (by decide +kernel) (by exact ev_ob_269) rfl ?_
              intro x19 hx19
              refine ev_r_iload_n (pc := 82) (k := 1) (v := Int32.ofInt a0) (by decide +kernel) (by exact (ev_l1 e4 (by decide) (by decide))) ?_
              refine ev_r_iast (pc := 83) ha0 hx19 (by decide +kernel) (by exact ev_ab_277) ?_
              intro s20
              refine ev_r_aload_n (pc := 84) (k := 0) (v := .ref 269) trivial (by decide +kernel) (by exact (ev_l1 e3 (by decide) (by decide))) ?_
              refine ev_r_getC (pc := 85) (y := 34) (ci := 3) (f := 6) (fin := 1) (k' := 278) (by decide +kernel) (by decide +kernel) (by exact ev_ob_269) rfl rfl ?_
              refine ev_r_aload_n (pc := 88) (k := 0) (v := .ref 269) trivial (by decide +kernel) (by exact (ev_l1 e3 (by decide) (by decide))) ?_
              refine ev_r_getI (pc := 89) (y := 47) (ci := 3) (f := 9) (fin := 0) (by decide +kernel) (by decide +kernel) (by exact ev_ob_269) rfl ?_
              intro x21 hx21
              refine ev_r_iload_n (pc := 92) (k := 2) (v := Int32.ofInt a1) (by decide +kernel) (by exact (ev_l1 e5 (by decide) (by decide))) ?_
              refine ev_r_iast (pc := 93) ha1 hx21 (by decide +kernel) (by exact ev_ab_278) ?_
              intro s22
              refine ev_r_aload_n (pc := 94) (k := 0) (v := .ref 269) trivial (by decide +kernel) (by exact (ev_l1 e3 (by decide) (by decide))) ?_
              refine ev_r_getC (pc := 95) (y := 37) (ci := 3) (f := 7) (fin := 1) (k' := 279) (by decide +kernel) (by decide +kernel) (by exact ev_ob_269) rfl rfl ?_
              refine ev_r_aload_n (pc := 98) (k := 0) (v := .ref 269) trivial (by decide +kernel) (by exact (ev_l1 e3 (by decide) (by decide))) ?_
              refine ev_r_getI (pc := 99) (y := 47) (ci := 3) (f := 9) (fin := 0) (by decide +kernel) (by decide +kernel) (by exact ev_ob_269) rfl ?_
              intro x23 hx23
              refine ev_r_iload (pc := 102) (k := 4) (v := Int32.ofInt a3) (by decide +kernel) (by exact (ev_lk_st1 e7 (by decide) rfl)) ?_
              refine ev_r_iast (pc := 104) ha3 hx23 (by decide +kernel) (by exact ev_ab_279) ?_
              intro s24
              refine ev_r_aload_n (pc := 105) (k := 0) (v := .ref 269) trivial (by decide +kernel) (by exact (ev_l1 e3 (by decide) (by decide))) ?_
              refine ev_r_getC (pc := 106) (y := 18) (ci := 3) (f := 1) (fin := 1) (k' := 272) (by decide +kernel) (by decide +kernel) (by exact ev_ob_269) rfl rfl ?_
              refine ev_r_getC (pc := 109) (y := 81) (ci := 10) (f := 0) (fin := 2) (k' := 273) (by decide +kernel) (by decide +kernel) (by exact ev_ob_272) rfl rfl ?_
              refine ev_r_iload_n (pc := 112) (k := 3) (v := Int32.ofInt a2) (by decide +kernel) (by exact (ev_l1 e6 (by decide) (by decide))) ?_
              refine ev_r_aload_n (pc := 113) (k := 0) (v := .ref 269) trivial (by decide +kernel) (by exact (ev_l1 e3 (by decide) (by decide))) ?_
              refine ev_r_getC (pc := 114) (y := 40) (ci := 3) (f := 8) (fin := 1) (k' := 280) (by decide +kernel) (by decide +kernel) (by exact ev_ob_269) rfl rfl ?_
              refine ev_r_aload_n (pc := 117) (k := 0) (v := .ref 269) trivial (by decide +kernel) (by exact (ev_l1 e3 (by decide) (by decide))) ?_
              refine ev_r_getI (pc := 118) (y := 51) (ci := 3) (f := 10) (fin := 0) (by decide +kernel) (by decide +kernel) (by exact ev_ob_269) rfl ?_
              intro x25 hx25
              refine ev_r_iload (pc := 121) (k := 4) (v := Int32.ofInt a3) (by decide +kernel) (by exact (ev_lk_st1 e7 (by decide) rfl)) ?_
              refine ev_r_copyI (pc := 123) (y := 90) ⟨ha2, hx25, ha3⟩ (by decide +kernel) (by decide +kernel) (by (try simp only [ev_sum, ev_nv_cat]); first | done | rfl) (by exact ev_ab_273) (by exact ev_ab_280) ?_
              intro s26
              refine ev_r_aload_n (pc := 126) (k := 0) (v := .ref 269) trivial (by decide +kernel) (by exact (ev_l1 e3 (by decide) (by decide))) ?_
              refine ev_r_dup (pc := 127) rfl (by decide +kernel) ?_
              refine ev_r_getI (pc := 128) (y := 47) (ci := 3) (f := 9) (fin := 0) (by decide +kernel) (by decide +kernel) (by exact ev_ob_269) rfl ?_
              intro x27 hx27
              refine ev_r_iconst (pc := 131) (k := 1) (by decide +kernel) ?_
              refine ev_r_iadd (pc := 132) (by decide +kernel) ?_
              intro x28 hx28
              refine ev_r_putI (pc := 133) (y := 47) (ci := 3) (f := 9) hx28 (by decide +kernel) (by decide +kernel) (by exact ev_ob_269) rfl rfl ?_
              intro s29
              refine ev_r_aload_n (pc := 136) (k := 0) (v := .ref 269) trivial (by decide +kernel) (by exact (ev_l1 e3 (by decide) (by decide))) ?_
              refine ev_r_dup (pc := 137) rfl (by decide +kernel) ?_
              refine ev_r_getI (pc := 138) (y := 51) (ci := 3) (f := 10) (fin := 0) (by decide +kernel) (by decide +kernel) (by exact ev_ob_269) rfl ?_
              intro x30 hx30
              refine ev_r_iload (pc := 141) (k := 4) (v := Int32.ofInt a3) (by decide +kernel) (by exact (ev_lk_st1 e7 (by decide) rfl)) ?_
              refine ev_r_iadd (pc := 143) (by decide +kernel) ?_
              intro x31 hx31
              refine ev_r_putI (pc := 144) (y := 51) (ci := 3) (f := 10) hx31 (by decide +kernel) (by decide +kernel) (by exact ev_ob_269) rfl rfl ?_
              intro s32
              exact ev_r_return (pc := 147) (x := ()) trivial (by decide +kernel) (by decide +kernel) rfl
            · intro c18
              exact ev_r_return (pc := 73) (x := ()) trivial (by decide +kernel) (by decide +kernel) rfl
  · intro K29 hK29
    refine ev_r_jn (Q := fun K => ∀ (s39 : ev_St) (w33 : List (Nat × Value)), ev_lk w33 0 = some (.ref 269) → ev_lk w33 1 = some (.int (Int32.ofInt a0)) → ev_lk w33 2 = some (.int (Int32.ofInt a1)) → ev_lk w33 3 = some (.int (Int32.ofInt a2)) → ev_lk w33 4 = some (.int (Int32.ofInt a3)) → ev_w none (ev_Mof 46) d 28 w33 [] s39 (K  s39) ev_eU ev_PU) ?_ ?_
    · intro  s39 w33 e34 e35 e36 e37 e38
      refine ev_r_iconst (pc := 28) (k := 0) (by decide +kernel) ?_
      exact hK29 0 (by decide) s39 _ (by exact e34) (by exact e35) (by exact e36) (by exact e37) (by exact e38)
    · intro K28 hK28
      refine ev_r_if (pc := 1) (q := .lt) (o := 27) (t := 28) (c := a2 < 0) (by decide +kernel) (ev_k_lt ha2 ev_rng0) (by decide +kernel) ?_ ?_
      · intro c40
        exact hK28  S _ (by rfl) (by rfl) (by rfl) (by rfl) (by rfl)
      · intro c40
        refine ev_r_iload (pc := 4) (k := 4) (v := Int32.ofInt a3) (by decide +kernel) (by rfl) ?_
        refine ev_r_if (pc := 6) (q := .lt) (o := 22) (t := 28) (c := a3 < 0) (by decide +kernel) (ev_k_lt ha3 ev_rng0) (by decide +kernel) ?_ ?_
        · intro c41
          exact hK28  S _ (by rfl) (by rfl) (by rfl) (by rfl) (by rfl)
        · intro c41
          refine ev_r_iload_n (pc := 9) (k := 3) (v := Int32.ofInt a2) (by decide +kernel) (by rfl) ?_
          refine ev_r_iload (pc := 10) (k := 4) (v := Int32.ofInt a3) (by decide +kernel) (by rfl) ?_
          refine ev_r_iadd (pc := 12) (by decide +kernel) ?_
          intro x42 hx42
          refine ev_r_aload_n (pc := 13) (k := 0) (v := .ref 269) trivial (by decide +kernel) (by rfl) ?_
          refine ev_r_getC (pc := 14) (y := 18) (ci := 3) (f := 1) (fin := 1) (k' := 272) (by decide +kernel) (by decide +kernel) (by exact ev_ob_269) rfl rfl ?_
          refine ev_r_getC (pc := 17) (y := 81) (ci := 10) (f := 0) (fin := 2) (k' := 273) (by decide +kernel) (by decide +kernel) (by exact ev_ob_272) rfl rfl ?_
          refine ev_r_alen (pc := 20) (kd := 1) (ty := .int) (Or.inl rfl) (by decide +kernel) (by exact ev_ab_273) ?_
          intro x43 hx43
          refine ev_r_icmp (pc := 21) (q := .gt) (o := 7) (t := 28) (c := x43 < x42) (by decide +kernel) (ev_k_gt hx42 hx43) (by decide +kernel) ?_ ?_
          · intro c44
            exact hK28  S _ (by rfl) (by rfl) (by rfl) (by rfl) (by rfl)
          · intro c44
            refine ev_r_iconst (pc := 24) (k := 1) (by decide +kernel) ?_
            refine ev_r_goto (pc := 25) (o := 4) (t := 29) (by decide +kernel) (by decide +kernel) ?_
            exact hK29 1 (by decide) S _ (by rfl) (by rfl) (by rfl) (by rfl) (by rfl)
