/-! METHODS as functions, laid by decomp.py -/
theorem ev_ob_272 : ev_isOb 272 10 = true := (by decide +kernel)
theorem ev_fo_5_10 {k : Nat} (h : ev_isOb k 5 = true) : ev_isAb (k + 11) 1 .int = true := ev_foA (by decide +kernel) h
theorem ev_on_8 {k : Nat} (h : ev_isOb k 8 = true) : k = 281 := ev_only (by decide +kernel) h
theorem ev_ab_277 : ev_isAb 277 1 .int = true := (by decide +kernel)
theorem ev_ab_278 : ev_isAb 278 1 .int = true := (by decide +kernel)
theorem ev_ab_279 : ev_isAb 279 1 .int = true := (by decide +kernel)
theorem ev_ab_273 : ev_isAb 273 1 .int = true := (by decide +kernel)
theorem ev_ab_280 : ev_isAb 280 1 .int = true := (by decide +kernel)
theorem ev_ab_276 : ev_isAb 276 1 .int = true := (by decide +kernel)
theorem ev_ab_275 : ev_isAb 275 1 .int = true := (by decide +kernel)
theorem ev_ab_274 : ev_isAb 274 1 .int = true := (by decide +kernel)
theorem ev_on_0 {k : Nat} (h : ev_isOb k 0 = true) : k = 254 := ev_only (by decide +kernel) h
/-- MendBench$Search.endRound(I)Z -/
def jm_145 (Q : Nat) (a0 : Int) (S : ev_St) : Option ((Int) × ev_St) := ev_b (S.1 281 4) fun x1 => ev_ck (x1 + 2) fun x2 => ev_if ((0 : Int) ≤ x2 ∧ x2 < (ev_aln 282 : Int)) (ev_b (S.1 282 (Int.toNat x2)) fun x3 => ev_b (S.2.2.1 281 0) fun r4 => ev_if (r4 ≠ 0) (ev_if ((0 : Int) ≤ a0 ∧ a0 < (ev_aln (((r4 - 1) + 3)) : Int)) (ev_b (S.1 (((r4 - 1) + 3)) (Int.toNat a0)) fun x6 => ev_jn (fun (x7 : Int) (x8 : Int) (s13 : ev_St) => ev_jn (fun  (s18 : ev_St) => ev_b (s18.1 281 4) fun x19 => ev_if ((0 : Int) ≤ x19 ∧ x19 < (ev_aln 282 : Int)) (ev_b (s18.1 282 (Int.toNat x19)) fun x20 => ev_ck (x7 + 1) fun x21 => ev_b (s18.1 281 3) fun x22 => ev_bd (jm_124 Q x20 0 x21 x22 s18) fun x24 s23 => ev_b (ev_pI s23 281 4 x24) fun s25 => ev_bd (jm_143 Q a0 s25) fun x27 s26 => ev_if (ev_bl x27) (some (x27, s26)))) fun K68 => if x8 = 0 then (K68  s13) else (ev_b (s13.1 281 3) fun x30 => ev_b (s13.1 281 4) fun x31 => ev_ck (x31 + 3) fun x32 => ev_if ((0 : Int) ≤ x32 ∧ x32 < (ev_aln 282 : Int)) (ev_b (s13.1 282 (Int.toNat x32)) fun x33 => if x30 ≠ x33 then (K68  s13) else (some (0, s13))))) fun K43 => ev_jn (fun (x35 : Int) (s40 : ev_St) => K43 x35 0 s40) fun K42 => if x6 ≠ (-1) then (K42 x3 S) else (ev_b (S.2.2.1 281 0) fun r42 => ev_if (r42 ≠ 0) (ev_if ((0 : Int) ≤ a0 ∧ a0 < (ev_aln (((r42 - 1) + 2)) : Int)) (ev_b (S.1 (((r42 - 1) + 2)) (Int.toNat a0)) fun x44 => if x3 < x44 then (K42 x3 S) else (K43 x3 1 S)))))))
theorem jt_145 (d : Nat) (hd : 3 ≤ d) (Q : Nat) (a0 : Int) (ha0 : ev_rng a0) (S : ev_St) (x : Int) (S' : ev_St) (hJ : jm_145 Q a0 S = some (x, S')) : ev_Ref d 145 [.ref 281, .int (Int32.ofInt a0)] S (ev_eI x) S' (ev_bl x) := by
  obtain ⟨d, rfl⟩ : ∃ e, d = e + 1 := ⟨d - 1, by omega⟩
  refine ev_ref_of (P := ev_bl) (lv := [(0, .ref 281), (1, .int (Int32.ofInt a0))]) (by decide +kernel) (by (try simp only [ev_sum, ev_nv_cat]); first | done | rfl) (by (try simp only [lv_args, ev_nv_cat]); first | done | rfl) ?_ x S' hJ
  unfold jm_145
  refine ev_r_aload_n (pc := 0) (k := 0) (v := .ref 281) trivial (by decide +kernel) (by rfl) ?_
  refine ev_r_getC (pc := 1) (y := 14) (ci := 8) (f := 6) (fin := 1) (k' := 282) (by decide +kernel) (by decide +kernel) (by exact ev_ob_281) rfl rfl ?_
  refine ev_r_aload_n (pc := 4) (k := 0) (v := .ref 281) trivial (by decide +kernel) (by rfl) ?_
  refine ev_r_getI (pc := 5) (y := 73) (ci := 8) (f := 4) (fin := 0) (by decide +kernel) (by decide +kernel) (by exact ev_ob_281) rfl ?_
  intro x1 hx1
  refine ev_r_iconst (pc := 8) (k := 2) (by decide +kernel) ?_
  refine ev_r_iadd (pc := 9) (by decide +kernel) ?_
  intro x2 hx2
  refine ev_r_iald (pc := 10) hx2 (by decide +kernel) (by exact ev_ab_282) ?_
  intro x3 hx3
  refine ev_r_istore_n (pc := 11) (k := 2) (by decide +kernel) (by decide +kernel) rfl ?_
  refine ev_r_aload_n (pc := 12) (k := 0) (v := .ref 281) trivial (by decide +kernel) (by exact (ev_l1 (by rfl) (by decide) (by decide))) ?_
  refine ev_r_getR (pc := 13) (y := 58) (ci := 8) (f := 0) (fin := 0) (t := 5) (by decide +kernel) (by decide +kernel) (by exact ev_ob_281) rfl rfl ?_
  intro r4 hr4
  have hr4 : r4 = 0 ∨ ev_isOb (r4 - 1) 5 = true := hr4
  refine ev_r_chk ?_
  intro c5
  refine ev_r_dr (r := r4) (fun v => [v]) c5 ?_
  refine ev_r_getC (pc := 16) (y := 187) (ci := 5) (f := 2) (fin := 2) (k' := ((r4 - 1) + 3)) (by decide +kernel) (by decide +kernel) (by exact (hr4.resolve_left c5)) rfl rfl ?_
  refine ev_r_iload_n (pc := 19) (k := 1) (v := Int32.ofInt a0) (by decide +kernel) (by exact (ev_lk_st1 (by rfl) (by decide) rfl)) ?_
  refine ev_r_iald (pc := 20) ha0 (by decide +kernel) (by exact (ev_fo_5_2 (hr4.resolve_left c5))) ?_
  intro x6 hx6
  refine ev_r_iconst (pc := 21) (k := -1) (by decide +kernel) ?_
  refine ev_r_jn (Q := fun K => ∀ (x7 : Int) (hx7 : ev_rng x7), ∀ (x8 : Int) (hx8 : ev_rng x8), ∀ (s13 : ev_St) (w9 : List (Nat × Value)), ev_lk w9 0 = some (.ref 281) → ev_lk w9 1 = some (.int (Int32.ofInt a0)) → ev_lk w9 2 = some (.int (Int32.ofInt x7)) → ev_w none (ev_Mof 145) d 43 w9 [.int (Int32.ofInt x8)] s13 (K x7 x8 s13) ev_eI ev_bl) ?_ ?_
  · intro x7 hx7 x8 hx8 s13 w9 e10 e11 e12
    refine ev_r_istore_n (pc := 43) (k := 3) (by decide +kernel) (by decide +kernel) rfl ?_
    refine ev_r_iload_n (pc := 44) (k := 3) (v := Int32.ofInt x8) (by decide +kernel) (by exact ev_lk_st1_self) ?_
    refine ev_r_jn (Q := fun K => ∀ (s18 : ev_St) (w14 : List (Nat × Value)), ev_lk w14 0 = some (.ref 281) → ev_lk w14 1 = some (.int (Int32.ofInt a0)) → ev_lk w14 2 = some (.int (Int32.ofInt x7)) → ev_w none (ev_Mof 145) d 68 w14 [] s18 (K  s18) ev_eI ev_bl) ?_ ?_
    · intro  s18 w14 e15 e16 e17
      refine ev_r_aload_n (pc := 68) (k := 0) (v := .ref 281) trivial (by decide +kernel) (by exact e15) ?_
      refine ev_r_aload_n (pc := 69) (k := 0) (v := .ref 281) trivial (by decide +kernel) (by exact e15) ?_
      refine ev_r_aload_n (pc := 70) (k := 0) (v := .ref 281) trivial (by decide +kernel) (by exact e15) ?_
      refine ev_r_getC (pc := 71) (y := 14) (ci := 8) (f := 6) (fin := 1) (k' := 282) (by decide +kernel) (by decide +kernel) (by exact ev_ob_281) rfl rfl ?_
      refine ev_r_aload_n (pc := 74) (k := 0) (v := .ref 281) trivial (by decide +kernel) (by exact e15) ?_
      refine ev_r_getI (pc := 75) (y := 73) (ci := 8) (f := 4) (fin := 0) (by decide +kernel) (by decide +kernel) (by exact ev_ob_281) rfl ?_
      intro x19 hx19
      refine ev_r_iald (pc := 78) hx19 (by decide +kernel) (by exact ev_ab_282) ?_
      intro x20 hx20
      refine ev_r_iconst (pc := 79) (k := 0) (by decide +kernel) ?_
      refine ev_r_iload_n (pc := 80) (k := 2) (v := Int32.ofInt x7) (by decide +kernel) (by exact e17) ?_
      refine ev_r_iconst (pc := 81) (k := 1) (by decide +kernel) ?_
      refine ev_r_iadd (pc := 82) (by decide +kernel) ?_
      intro x21 hx21
      refine ev_r_aload_n (pc := 83) (k := 0) (v := .ref 281) trivial (by decide +kernel) (by exact e15) ?_
      refine ev_r_getI (pc := 84) (y := 70) (ci := 8) (f := 3) (fin := 0) (by decide +kernel) (by decide +kernel) (by exact ev_ob_281) rfl ?_
      intro x22 hx22
      refine ev_r_virt (pc := 87) (y := 142) (mi := 124) (na := 4) (k := 281) (as := [.int (Int32.ofInt x20), .int (Int32.ofInt 0), .int (Int32.ofInt x21), .int (Int32.ofInt x22)]) (rest := [.ref 281]) (encc := ev_oI) (Q := ev_rng) (fun x S1 h => jt_124 d (by omega) Q x20 0 x21 x22 hx20 (by decide) hx21 hx22 s18 x S1 h) (by exact ev_ob_281) (by decide +kernel) (by decide +kernel) (by decide +kernel) (by decide +kernel) rfl (by (try simp only [ev_sum, ev_nv_cat]); first | done | rfl) ?_
      intro x24 s23 hx24
      show ev_w _ _ _ _ _ [.int (Int32.ofInt x24), .ref 281] _ _ _ _
      refine ev_r_putI (pc := 90) (y := 73) (ci := 8) (f := 4) hx24 (by decide +kernel) (by decide +kernel) (by exact ev_ob_281) rfl rfl ?_
      intro s25
      refine ev_r_aload_n (pc := 93) (k := 0) (v := .ref 281) trivial (by decide +kernel) (by exact e15) ?_
      refine ev_r_iload_n (pc := 94) (k := 1) (v := Int32.ofInt a0) (by decide +kernel) (by exact e16) ?_
      refine ev_r_virt (pc := 95) (y := 175) (mi := 143) (na := 1) (k := 281) (as := [.int (Int32.ofInt a0)]) (rest := []) (encc := ev_oI) (Q := ev_bl) (fun x S1 h => jt_143 d (by omega) Q a0 ha0 s25 x S1 h) (by exact ev_ob_281) (by decide +kernel) (by decide +kernel) (by decide +kernel) (by decide +kernel) rfl (by (try simp only [ev_sum, ev_nv_cat]); first | done | rfl) ?_
      intro x27 s26 hx27
      replace hx27 := ev_bl_rng hx27
      show ev_w _ _ _ _ _ [.int (Int32.ofInt x27)] _ _ _ _
      refine ev_r_chk ?_
      intro c28
      exact ev_r_ireturn (pc := 98) (x := x27) (v := Int32.ofInt x27) (ty := .boolean) c28 (by decide +kernel) (by decide +kernel) (ev_ret_bl c28) rfl
    · intro K68 hK68
      refine ev_r_if (pc := 45) (q := .eq) (o := 23) (t := 68) (c := x8 = 0) (by decide +kernel) (ev_k_eq hx8 ev_rng0) (by decide +kernel) ?_ ?_
      · intro c29
        exact hK68  s13 _ (by exact (ev_l1 e10 (by decide) (by decide))) (by exact (ev_l1 e11 (by decide) (by decide))) (by exact (ev_lk_st1 e12 (by decide) rfl))
      · intro c29
        refine ev_r_aload_n (pc := 48) (k := 0) (v := .ref 281) trivial (by decide +kernel) (by exact (ev_l1 e10 (by decide) (by decide))) ?_
        refine ev_r_getI (pc := 49) (y := 70) (ci := 8) (f := 3) (fin := 0) (by decide +kernel) (by decide +kernel) (by exact ev_ob_281) rfl ?_
        intro x30 hx30
        refine ev_r_aload_n (pc := 52) (k := 0) (v := .ref 281) trivial (by decide +kernel) (by exact (ev_l1 e10 (by decide) (by decide))) ?_
        refine ev_r_getC (pc := 53) (y := 14) (ci := 8) (f := 6) (fin := 1) (k' := 282) (by decide +kernel) (by decide +kernel) (by exact ev_ob_281) rfl rfl ?_
        refine ev_r_aload_n (pc := 56) (k := 0) (v := .ref 281) trivial (by decide +kernel) (by exact (ev_l1 e10 (by decide) (by decide))) ?_
        refine ev_r_getI (pc := 57) (y := 73) (ci := 8) (f := 4) (fin := 0) (by decide +kernel) (by decide +kernel) (by exact ev_ob_281) rfl ?_
        intro x31 hx31
        refine ev_r_iconst (pc := 60) (k := 3) (by decide +kernel) ?_
        refine ev_r_iadd (pc := 61) (by decide +kernel) ?_
        intro x32 hx32
        refine ev_r_iald (pc := 62) hx32 (by decide +kernel) (by exact ev_ab_282) ?_
        intro x33 hx33
        refine ev_r_icmp (pc := 63) (q := .ne) (o := 5) (t := 68) (c := x30 ≠ x33) (by decide +kernel) (ev_k_ne hx30 hx33) (by decide +kernel) ?_ ?_
        · intro c34
          exact hK68  s13 _ (by exact (ev_l1 e10 (by decide) (by decide))) (by exact (ev_l1 e11 (by decide) (by decide))) (by exact (ev_lk_st1 e12 (by decide) rfl))
        · intro c34
          refine ev_r_iconst (pc := 66) (k := 0) (by decide +kernel) ?_
          exact ev_r_ireturn (pc := 67) (x := 0) (v := Int32.ofInt 0) (ty := .boolean) (by decide : ev_bl 0) (by decide +kernel) (by decide +kernel) (ev_ret_bl (by decide : ev_bl 0)) rfl
  · intro K43 hK43
    refine ev_r_jn (Q := fun K => ∀ (x35 : Int) (hx35 : ev_rng x35), ∀ (s40 : ev_St) (w36 : List (Nat × Value)), ev_lk w36 0 = some (.ref 281) → ev_lk w36 1 = some (.int (Int32.ofInt a0)) → ev_lk w36 2 = some (.int (Int32.ofInt x35)) → ev_w none (ev_Mof 145) d 42 w36 [] s40 (K x35 s40) ev_eI ev_bl) ?_ ?_
    · intro x35 hx35 s40 w36 e37 e38 e39
      refine ev_r_iconst (pc := 42) (k := 0) (by decide +kernel) ?_
      exact hK43 x35 hx35 0 (by decide) s40 _ (by exact e37) (by exact e38) (by exact e39)
    · intro K42 hK42
      refine ev_r_icmp (pc := 22) (q := .ne) (o := 20) (t := 42) (c := x6 ≠ (-1)) (by decide +kernel) (ev_k_ne hx6 (by decide)) (by decide +kernel) ?_ ?_
      · intro c41
        exact hK42 x3 hx3 S _ (by exact (ev_l1 (by rfl) (by decide) (by decide))) (by exact (ev_lk_st1 (by rfl) (by decide) rfl)) (by exact ev_lk_st1_self)
      · intro c41
        refine ev_r_iload_n (pc := 25) (k := 2) (v := Int32.ofInt x3) (by decide +kernel) (by exact ev_lk_st1_self) ?_
        refine ev_r_aload_n (pc := 26) (k := 0) (v := .ref 281) trivial (by decide +kernel) (by exact (ev_l1 (by rfl) (by decide) (by decide))) ?_
        refine ev_r_getR (pc := 27) (y := 58) (ci := 8) (f := 0) (fin := 0) (t := 5) (by decide +kernel) (by decide +kernel) (by exact ev_ob_281) rfl rfl ?_
        intro r42 hr42
        have hr42 : r42 = 0 ∨ ev_isOb (r42 - 1) 5 = true := hr42
        refine ev_r_chk ?_
        intro c43
        refine ev_r_dr (r := r42) (fun v => [v, .int (Int32.ofInt x3)]) c43 ?_
        refine ev_r_getC (pc := 30) (y := 184) (ci := 5) (f := 1) (fin := 2) (k' := ((r42 - 1) + 2)) (by decide +kernel) (by decide +kernel) (by exact (hr42.resolve_left c43)) rfl rfl ?_
        refine ev_r_iload_n (pc := 33) (k := 1) (v := Int32.ofInt a0) (by decide +kernel) (by exact (ev_lk_st1 (by rfl) (by decide) rfl)) ?_
        refine ev_r_iald (pc := 34) ha0 (by decide +kernel) (by exact (ev_fo_5_1 (hr42.resolve_left c43))) ?_
        intro x44 hx44
        refine ev_r_icmp (pc := 35) (q := .lt) (o := 7) (t := 42) (c := x3 < x44) (by decide +kernel) (ev_k_lt hx3 hx44) (by decide +kernel) ?_ ?_
        · intro c45
          exact hK42 x3 hx3 S _ (by exact (ev_l1 (by rfl) (by decide) (by decide))) (by exact (ev_lk_st1 (by rfl) (by decide) rfl)) (by exact ev_lk_st1_self)
        · intro c45
          refine ev_r_iconst (pc := 38) (k := 1) (by decide +kernel) ?_
          refine ev_r_goto (pc := 39) (o := 4) (t := 43) (by decide +kernel) (by decide +kernel) ?_
          exact hK43 x3 hx3 1 (by decide) S _ (by exact (ev_l1 (by rfl) (by decide) (by decide))) (by exact (ev_lk_st1 (by rfl) (by decide) rfl)) (by exact ev_lk_st1_self)
/-- MendBench$Search.endLook(I)Z -/
def jm_142 (Q : Nat) (a0 : Int) (S : ev_St) : Option ((Int) × ev_St) := ev_b (S.2.2.1 281 0) fun r1 => ev_if (r1 ≠ 0) (ev_if ((0 : Int) ≤ a0 ∧ a0 < (ev_aln (((r1 - 1) + 1)) : Int)) (ev_b (S.1 (((r1 - 1) + 1)) (Int.toNat a0)) fun x3 => ev_b (S.1 281 4) fun x4 => ev_ck (x4 + 2) fun x5 => ev_if ((0 : Int) ≤ x5 ∧ x5 < (ev_aln 282 : Int)) (ev_b (S.1 282 (Int.toNat x5)) fun x6 => ev_jn (fun (x7 : Int) (x8 : Int) (s14 : ev_St) => ev_b (s14.1 281 4) fun x15 => ev_ck (x15 + 3) fun x16 => ev_if ((0 : Int) ≤ x16 ∧ x16 < (ev_aln 282 : Int)) (ev_b (s14.1 282 (Int.toNat x16)) fun x17 => ev_b (ev_pI s14 281 9 x17) fun s18 => if x7 = 21 then (some (0, s18)) else (if x7 ≠ 23 then (ev_jn (fun (x21 : Int) (s25 : ev_St) => ev_b (ev_pI s25 281 3 x21) fun s26 => ev_b (s26.1 281 4) fun x27 => ev_if ((0 : Int) ≤ x27 ∧ x27 < (ev_aln 282 : Int)) (ev_b (s26.1 282 (Int.toNat x27)) fun x28 => ev_b (ev_pI s26 281 4 x28) fun s29 => ev_b (s29.2.2.1 281 0) fun r30 => ev_if (r30 ≠ 0) (ev_if ((0 : Int) ≤ a0 ∧ a0 < (ev_aln (((r30 - 1) + 7)) : Int)) (ev_b (s29.1 (((r30 - 1) + 7)) (Int.toNat a0)) fun x32 => ev_b (ev_pI s29 281 2 x32) fun s33 => some (1, s33))))) fun K82 => if x7 ≠ 19 then (K82 x8 s18) else (ev_b (s18.1 281 3) fun x35 => K82 x35 s18)) else (some (0, s18))))) fun K38 => if x3 < 22 then (K38 x3 x6 S) else (ev_b (S.1 281 3) fun x37 => if x37 = x6 then (K38 x3 x6 S) else (some (0, S))))))
theorem jt_142 (d : Nat) (hd : 1 ≤ d) (Q : Nat) (a0 : Int) (ha0 : ev_rng a0) (S : ev_St) (x : Int) (S' : ev_St) (hJ : jm_142 Q a0 S = some (x, S')) : ev_Ref d 142 [.ref 281, .int (Int32.ofInt a0)] S (ev_eI x) S' (ev_bl x) := by
  obtain ⟨d, rfl⟩ : ∃ e, d = e + 1 := ⟨d - 1, by omega⟩
  refine ev_ref_of (P := ev_bl) (lv := [(0, .ref 281), (1, .int (Int32.ofInt a0))]) (by decide +kernel) (by (try simp only [ev_sum, ev_nv_cat]); first | done | rfl) (by (try simp only [lv_args, ev_nv_cat]); first | done | rfl) ?_ x S' hJ
  unfold jm_142
  refine ev_r_aload_n (pc := 0) (k := 0) (v := .ref 281) trivial (by decide +kernel) (by rfl) ?_
  refine ev_r_getR (pc := 1) (y := 58) (ci := 8) (f := 0) (fin := 0) (t := 5) (by decide +kernel) (by decide +kernel) (by exact ev_ob_281) rfl rfl ?_
  intro r1 hr1
  have hr1 : r1 = 0 ∨ ev_isOb (r1 - 1) 5 = true := hr1
  refine ev_r_chk ?_
  intro c2
  refine ev_r_dr (r := r1) (fun v => [v]) c2 ?_
  refine ev_r_getC (pc := 4) (y := 132) (ci := 5) (f := 0) (fin := 2) (k' := ((r1 - 1) + 1)) (by decide +kernel) (by decide +kernel) (by exact (hr1.resolve_left c2)) rfl rfl ?_
  refine ev_r_iload_n (pc := 7) (k := 1) (v := Int32.ofInt a0) (by decide +kernel) (by rfl) ?_
  refine ev_r_iald (pc := 8) ha0 (by decide +kernel) (by exact (ev_fo_5_0 (hr1.resolve_left c2))) ?_
  intro x3 hx3
  refine ev_r_istore_n (pc := 9) (k := 2) (by decide +kernel) (by decide +kernel) rfl ?_
  refine ev_r_aload_n (pc := 10) (k := 0) (v := .ref 281) trivial (by decide +kernel) (by exact (ev_l1 (by rfl) (by decide) (by decide))) ?_
  refine ev_r_getC (pc := 11) (y := 14) (ci := 8) (f := 6) (fin := 1) (k' := 282) (by decide +kernel) (by decide +kernel) (by exact ev_ob_281) rfl rfl ?_
  refine ev_r_aload_n (pc := 14) (k := 0) (v := .ref 281) trivial (by decide +kernel) (by exact (ev_l1 (by rfl) (by decide) (by decide))) ?_
  refine ev_r_getI (pc := 15) (y := 73) (ci := 8) (f := 4) (fin := 0) (by decide +kernel) (by decide +kernel) (by exact ev_ob_281) rfl ?_
  intro x4 hx4
  refine ev_r_iconst (pc := 18) (k := 2) (by decide +kernel) ?_
  refine ev_r_iadd (pc := 19) (by decide +kernel) ?_
  intro x5 hx5
  refine ev_r_iald (pc := 20) hx5 (by decide +kernel) (by exact ev_ab_282) ?_
  intro x6 hx6
  refine ev_r_istore_n (pc := 21) (k := 3) (by decide +kernel) (by decide +kernel) rfl ?_
  refine ev_r_iload_n (pc := 22) (k := 2) (v := Int32.ofInt x3) (by decide +kernel) (by exact (ev_lk_st1 ev_lk_st1_self (by decide) rfl)) ?_
  refine ev_r_bipush (pc := 23) (k := 22) (by decide +kernel) (by decide +kernel) ?_
  refine ev_r_jn (Q := fun K => ∀ (x7 : Int) (hx7 : ev_rng x7), ∀ (x8 : Int) (hx8 : ev_rng x8), ∀ (s14 : ev_St) (w9 : List (Nat × Value)), ev_lk w9 0 = some (.ref 281) → ev_lk w9 1 = some (.int (Int32.ofInt a0)) → ev_lk w9 2 = some (.int (Int32.ofInt x7)) → ev_lk w9 3 = some (.int (Int32.ofInt x8)) → ev_w none (ev_Mof 142) d 38 w9 [] s14 (K x7 x8 s14) ev_eI ev_bl) ?_ ?_
  · intro x7 hx7 x8 hx8 s14 w9 e10 e11 e12 e13
    refine ev_r_aload_n (pc := 38) (k := 0) (v := .ref 281) trivial (by decide +kernel) (by exact e10) ?_
    refine ev_r_aload_n (pc := 39) (k := 0) (v := .ref 281) trivial (by decide +kernel) (by exact e10) ?_
    refine ev_r_getC (pc := 40) (y := 14) (ci := 8) (f := 6) (fin := 1) (k' := 282) (by decide +kernel) (by decide +kernel) (by exact ev_ob_281) rfl rfl ?_
    refine ev_r_aload_n (pc := 43) (k := 0) (v := .ref 281) trivial (by decide +kernel) (by exact e10) ?_
    refine ev_r_getI (pc := 44) (y := 73) (ci := 8) (f := 4) (fin := 0) (by decide +kernel) (by decide +kernel) (by exact ev_ob_281) rfl ?_
    intro x15 hx15
    refine ev_r_iconst (pc := 47) (k := 3) (by decide +kernel) ?_
    refine ev_r_iadd (pc := 48) (by decide +kernel) ?_
    intro x16 hx16
    refine ev_r_iald (pc := 49) hx16 (by decide +kernel) (by exact ev_ab_282) ?_
    intro x17 hx17
    refine ev_r_putI (pc := 50) (y := 82) (ci := 8) (f := 9) hx17 (by decide +kernel) (by decide +kernel) (by exact ev_ob_281) rfl rfl ?_
    intro s18
    refine ev_r_iload_n (pc := 53) (k := 2) (v := Int32.ofInt x7) (by decide +kernel) (by exact e12) ?_
    refine ev_r_bipush (pc := 54) (k := 21) (by decide +kernel) (by decide +kernel) ?_
    refine ev_r_icmp (pc := 56) (q := .eq) (o := 9) (t := 65) (c := x7 = 21) (by decide +kernel) (ev_k_eq hx7 (by decide)) (by decide +kernel) ?_ ?_
    · intro c19
      refine ev_r_iconst (pc := 65) (k := 0) (by decide +kernel) ?_
      exact ev_r_ireturn (pc := 66) (x := 0) (v := Int32.ofInt 0) (ty := .boolean) (by decide : ev_bl 0) (by decide +kernel) (by decide +kernel) (ev_ret_bl (by decide : ev_bl 0)) rfl
    · intro c19
      refine ev_r_iload_n (pc := 59) (k := 2) (v := Int32.ofInt x7) (by decide +kernel) (by exact e12) ?_
      refine ev_r_bipush (pc := 60) (k := 23) (by decide +kernel) (by decide +kernel) ?_
      refine ev_r_icmp (pc := 62) (q := .ne) (o := 5) (t := 67) (c := x7 ≠ 23) (by decide +kernel) (ev_k_ne hx7 (by decide)) (by decide +kernel) ?_ ?_
      · intro c20
        refine ev_r_aload_n (pc := 67) (k := 0) (v := .ref 281) trivial (by decide +kernel) (by exact e10) ?_
        refine ev_r_iload_n (pc := 68) (k := 2) (v := Int32.ofInt x7) (by decide +kernel) (by exact e12) ?_
        refine ev_r_bipush (pc := 69) (k := 19) (by decide +kernel) (by decide +kernel) ?_
        refine ev_r_jn (Q := fun K => ∀ (x21 : Int) (hx21 : ev_rng x21), ∀ (s25 : ev_St) (w22 : List (Nat × Value)), ev_lk w22 0 = some (.ref 281) → ev_lk w22 1 = some (.int (Int32.ofInt a0)) → ev_w none (ev_Mof 142) d 82 w22 [.int (Int32.ofInt x21), .ref 281] s25 (K x21 s25) ev_eI ev_bl) ?_ ?_
        · intro x21 hx21 s25 w22 e23 e24
          refine ev_r_putI (pc := 82) (y := 70) (ci := 8) (f := 3) hx21 (by decide +kernel) (by decide +kernel) (by exact ev_ob_281) rfl rfl ?_
          intro s26
          refine ev_r_aload_n (pc := 85) (k := 0) (v := .ref 281) trivial (by decide +kernel) (by exact e23) ?_
          refine ev_r_aload_n (pc := 86) (k := 0) (v := .ref 281) trivial (by decide +kernel) (by exact e23) ?_
          refine ev_r_getC (pc := 87) (y := 14) (ci := 8) (f := 6) (fin := 1) (k' := 282) (by decide +kernel) (by decide +kernel) (by exact ev_ob_281) rfl rfl ?_
          refine ev_r_aload_n (pc := 90) (k := 0) (v := .ref 281) trivial (by decide +kernel) (by exact e23) ?_
          refine ev_r_getI (pc := 91) (y := 73) (ci := 8) (f := 4) (fin := 0) (by decide +kernel) (by decide +kernel) (by exact ev_ob_281) rfl ?_
          intro x27 hx27
          refine ev_r_iald (pc := 94) hx27 (by decide +kernel) (by exact ev_ab_282) ?_
          intro x28 hx28
          refine ev_r_putI (pc := 95) (y := 73) (ci := 8) (f := 4) hx28 (by decide +kernel) (by decide +kernel) (by exact ev_ob_281) rfl rfl ?_
          intro s29
          refine ev_r_aload_n (pc := 98) (k := 0) (v := .ref 281) trivial (by decide +kernel) (by exact e23) ?_
          refine ev_r_aload_n (pc := 99) (k := 0) (v := .ref 281) trivial (by decide +kernel) (by exact e23) ?_
          refine ev_r_getR (pc := 100) (y := 58) (ci := 8) (f := 0) (fin := 0) (t := 5) (by decide +kernel) (by decide +kernel) (by exact ev_ob_281) rfl rfl ?_
          intro r30 hr30
          have hr30 : r30 = 0 ∨ ev_isOb (r30 - 1) 5 = true := hr30
          refine ev_r_chk ?_
          intro c31
          refine ev_r_dr (r := r30) (fun v => [v, .ref 281]) c31 ?_
          refine ev_r_getC (pc := 103) (y := 139) (ci := 5) (f := 6) (fin := 2) (k' := ((r30 - 1) + 7)) (by decide +kernel) (by decide +kernel) (by exact (hr30.resolve_left c31)) rfl rfl ?_
          refine ev_r_iload_n (pc := 106) (k := 1) (v := Int32.ofInt a0) (by decide +kernel) (by exact e24) ?_
          refine ev_r_iald (pc := 107) ha0 (by decide +kernel) (by exact (ev_fo_5_6 (hr30.resolve_left c31))) ?_
          intro x32 hx32
          refine ev_r_putI (pc := 108) (y := 96) (ci := 8) (f := 2) hx32 (by decide +kernel) (by decide +kernel) (by exact ev_ob_281) rfl rfl ?_
          intro s33
          refine ev_r_iconst (pc := 111) (k := 1) (by decide +kernel) ?_
          exact ev_r_ireturn (pc := 112) (x := 1) (v := Int32.ofInt 1) (ty := .boolean) (by decide : ev_bl 1) (by decide +kernel) (by decide +kernel) (ev_ret_bl (by decide : ev_bl 1)) rfl
        · intro K82 hK82
          refine ev_r_icmp (pc := 71) (q := .ne) (o := 10) (t := 81) (c := x7 ≠ 19) (by decide +kernel) (ev_k_ne hx7 (by decide)) (by decide +kernel) ?_ ?_
          · intro c34
            refine ev_r_iload_n (pc := 81) (k := 3) (v := Int32.ofInt x8) (by decide +kernel) (by exact e13) ?_
            exact hK82 x8 hx8 s18 _ (by exact e10) (by exact e11)
          · intro c34
            refine ev_r_aload_n (pc := 74) (k := 0) (v := .ref 281) trivial (by decide +kernel) (by exact e10) ?_
            refine ev_r_getI (pc := 75) (y := 70) (ci := 8) (f := 3) (fin := 0) (by decide +kernel) (by decide +kernel) (by exact ev_ob_281) rfl ?_
            intro x35 hx35
            refine ev_r_goto (pc := 78) (o := 4) (t := 82) (by decide +kernel) (by decide +kernel) ?_
            exact hK82 x35 hx35 s18 _ (by exact e10) (by exact e11)
      · intro c20
        refine ev_r_iconst (pc := 65) (k := 0) (by decide +kernel) ?_
        exact ev_r_ireturn (pc := 66) (x := 0) (v := Int32.ofInt 0) (ty := .boolean) (by decide : ev_bl 0) (by decide +kernel) (by decide +kernel) (ev_ret_bl (by decide : ev_bl 0)) rfl
  · intro K38 hK38
    refine ev_r_icmp (pc := 25) (q := .lt) (o := 13) (t := 38) (c := x3 < 22) (by decide +kernel) (ev_k_lt hx3 (by decide)) (by decide +kernel) ?_ ?_
    · intro c36
      exact hK38 x3 hx3 x6 hx6 S _ (by exact (ev_l1 (ev_l1 (by rfl) (by decide) (by decide)) (by decide) (by decide))) (by exact (ev_l1 (ev_lk_st1 (by rfl) (by decide) rfl) (by decide) (by decide))) (by exact (ev_lk_st1 ev_lk_st1_self (by decide) rfl)) (by exact ev_lk_st1_self)
    · intro c36
      refine ev_r_aload_n (pc := 28) (k := 0) (v := .ref 281) trivial (by decide +kernel) (by exact (ev_l1 (ev_l1 (by rfl) (by decide) (by decide)) (by decide) (by decide))) ?_
      refine ev_r_getI (pc := 29) (y := 70) (ci := 8) (f := 3) (fin := 0) (by decide +kernel) (by decide +kernel) (by exact ev_ob_281) rfl ?_
      intro x37 hx37
      refine ev_r_iload_n (pc := 32) (k := 3) (v := Int32.ofInt x6) (by decide +kernel) (by exact ev_lk_st1_self) ?_
      refine ev_r_icmp (pc := 33) (q := .eq) (o := 5) (t := 38) (c := x37 = x6) (by decide +kernel) (ev_k_eq hx37 hx6) (by decide +kernel) ?_ ?_
      · intro c38
        exact hK38 x3 hx3 x6 hx6 S _ (by exact (ev_l1 (ev_l1 (by rfl) (by decide) (by decide)) (by decide) (by decide))) (by exact (ev_l1 (ev_lk_st1 (by rfl) (by decide) rfl) (by decide) (by decide))) (by exact (ev_lk_st1 ev_lk_st1_self (by decide) rfl)) (by exact ev_lk_st1_self)
      · intro c38
        refine ev_r_iconst (pc := 36) (k := 0) (by decide +kernel) ?_
        exact ev_r_ireturn (pc := 37) (x := 0) (v := Int32.ofInt 0) (ty := .boolean) (by decide : ev_bl 0) (by decide +kernel) (by decide +kernel) (ev_ret_bl (by decide : ev_bl 0)) rfl
/-- MendBench$Search.leave(I)Z -/
def jm_141 (Q : Nat) (a0 : Int) (S : ev_St) : Option ((Int) × ev_St) := ev_b (S.2.2.1 281 0) fun r1 => ev_if (r1 ≠ 0) (ev_if ((0 : Int) ≤ a0 ∧ a0 < (ev_aln (((r1 - 1) + 1)) : Int)) (ev_b (S.1 (((r1 - 1) + 1)) (Int.toNat a0)) fun x3 => ev_jn (fun  (s7 : ev_St) => ev_b (s7.2.2.1 281 0) fun r8 => ev_if (r8 ≠ 0) (ev_if ((0 : Int) ≤ a0 ∧ a0 < (ev_aln (((r8 - 1) + 7)) : Int)) (ev_b (s7.1 (((r8 - 1) + 7)) (Int.toNat a0)) fun x10 => ev_b (ev_pI s7 281 2 x10) fun s11 => some (1, s11)))) fun K22 => if x3 = 17 then (K22  S) else (if x3 ≠ 8 then (ev_b (S.1 281 4) fun x14 => ev_bd (jm_126 Q x14 S) fun x16 s15 => if x16 ≠ 0 then (ev_jn (fun  (s21 : ev_St) => ev_bd (jm_145 Q a0 s21) fun x23 s22 => ev_if (ev_bl x23) (some (x23, s22))) fun K62 => if x3 = 13 then (K62  s15) else (if x3 ≠ 14 then (if x3 < 19 then (ev_b (s15.1 281 4) fun x28 => ev_ck (x28 + 1) fun x29 => ev_if ((0 : Int) ≤ x29 ∧ x29 < (ev_aln 282 : Int)) (ev_b (s15.1 282 (Int.toNat x29)) fun x30 => ev_b (ev_iand x30 7) fun x31 => ev_jn (fun  (s34 : ev_St) => ev_b (s34.1 281 4) fun x35 => ev_if ((0 : Int) ≤ x35 ∧ x35 < (ev_aln 282 : Int)) (ev_b (s34.1 282 (Int.toNat x35)) fun x36 => ev_b (ev_pI s34 281 4 x36) fun s37 => some (1, s37))) fun K180 => if x31 ≠ 2 then (ev_b (s15.1 281 5) fun x39 => ev_b (s15.2.2.1 281 0) fun r40 => ev_if (r40 ≠ 0) (ev_if ((0 : Int) ≤ a0 ∧ a0 < (ev_aln (((r40 - 1) + 2)) : Int)) (ev_b (s15.1 (((r40 - 1) + 2)) (Int.toNat a0)) fun x42 => ev_b (s15.1 281 4) fun x43 => ev_ck (x43 + 2) fun x44 => ev_if ((0 : Int) ≤ x44 ∧ x44 < (ev_aln 282 : Int)) (ev_b (s15.1 282 (Int.toNat x44)) fun x45 => ev_b (s15.1 281 3) fun x46 => ev_bd (jm_125 Q x39 x42 x45 x46 s15) fun x48 s47 => ev_b (ev_pI s47 281 5 x48) fun s49 => ev_b (s49.2.2.1 281 0) fun r50 => ev_if (r50 ≠ 0) (ev_if ((0 : Int) ≤ a0 ∧ a0 < (ev_aln (((r50 - 1) + 7)) : Int)) (ev_b (s49.1 (((r50 - 1) + 7)) (Int.toNat a0)) fun x52 => ev_b (ev_pI s49 281 2 x52) fun s53 => K180  s53)))))) else (ev_b (s15.1 281 4) fun x54 => ev_ck (x54 + 2) fun x55 => ev_if ((0 : Int) ≤ x55 ∧ x55 < (ev_aln 282 : Int)) (ev_b (s15.1 282 (Int.toNat x55)) fun x56 => ev_b (ev_pI s15 281 2 x56) fun s57 => ev_b (s57.1 281 4) fun x58 => ev_ck (x58 + 3) fun x59 => ev_if ((0 : Int) ≤ x59 ∧ x59 < (ev_aln 282 : Int)) (ev_b (s57.1 282 (Int.toNat x59)) fun x60 => ev_b (ev_pI s57 281 5 x60) fun s61 => K180  s61))))) else (ev_bd (jm_142 Q a0 s15) fun x63 s62 => ev_if (ev_bl x63) (some (x63, s62)))) else (K62  s15))) else (some (0, s15))) else (K22  S))))
theorem jt_141 (d : Nat) (hd : 4 ≤ d) (Q : Nat) (a0 : Int) (ha0 : ev_rng a0) (S : ev_St) (x : Int) (S' : ev_St) (hJ : jm_141 Q a0 S = some (x, S')) : ev_Ref d 141 [.ref 281, .int (Int32.ofInt a0)] S (ev_eI x) S' (ev_bl x) := by
  obtain ⟨d, rfl⟩ : ∃ e, d = e + 1 := ⟨d - 1, by omega⟩
  refine ev_ref_of (P := ev_bl) (lv := [(0, .ref 281), (1, .int (Int32.ofInt a0))]) (by decide +kernel) (by (try simp only [ev_sum, ev_nv_cat]); first | done | rfl) (by (try simp only [lv_args, ev_nv_cat]); first | done | rfl) ?_ x S' hJ
  unfold jm_141
  refine ev_r_aload_n (pc := 0) (k := 0) (v := .ref 281) trivial (by decide +kernel) (by rfl) ?_
  refine ev_r_getR (pc := 1) (y := 58) (ci := 8) (f := 0) (fin := 0) (t := 5) (by decide +kernel) (by decide +kernel) (by exact ev_ob_281) rfl rfl ?_
  intro r1 hr1
  have hr1 : r1 = 0 ∨ ev_isOb (r1 - 1) 5 = true := hr1
  refine ev_r_chk ?_
  intro c2
  refine ev_r_dr (r := r1) (fun v => [v]) c2 ?_
  refine ev_r_getC (pc := 4) (y := 132) (ci := 5) (f := 0) (fin := 2) (k' := ((r1 - 1) + 1)) (by decide +kernel) (by decide +kernel) (by exact (hr1.resolve_left c2)) rfl rfl ?_
  refine ev_r_iload_n (pc := 7) (k := 1) (v := Int32.ofInt a0) (by decide +kernel) (by rfl) ?_
  refine ev_r_iald (pc := 8) ha0 (by decide +kernel) (by exact (ev_fo_5_0 (hr1.resolve_left c2))) ?_
  intro x3 hx3
  refine ev_r_istore_n (pc := 9) (k := 2) (by decide +kernel) (by decide +kernel) rfl ?_
  refine ev_r_iload_n (pc := 10) (k := 2) (v := Int32.ofInt x3) (by decide +kernel) (by exact ev_lk_st1_self) ?_
  refine ev_r_bipush (pc := 11) (k := 17) (by decide +kernel) (by decide +kernel) ?_
  refine ev_r_jn (Q := fun K => ∀ (s7 : ev_St) (w4 : List (Nat × Value)), ev_lk w4 0 = some (.ref 281) → ev_lk w4 1 = some (.int (Int32.ofInt a0)) → ev_w none (ev_Mof 141) d 22 w4 [] s7 (K  s7) ev_eI ev_bl) ?_ ?_
  · intro  s7 w4 e5 e6
    refine ev_r_aload_n (pc := 22) (k := 0) (v := .ref 281) trivial (by decide +kernel) (by exact e5) ?_
    refine ev_r_aload_n (pc := 23) (k := 0) (v := .ref 281) trivial (by decide +kernel) (by exact e5) ?_
    refine ev_r_getR (pc := 24) (y := 58) (ci := 8) (f := 0) (fin := 0) (t := 5) (by decide +kernel) (by decide +kernel) (by exact ev_ob_281) rfl rfl ?_
    intro r8 hr8
    have hr8 : r8 = 0 ∨ ev_isOb (r8 - 1) 5 = true := hr8
    refine ev_r_chk ?_
    intro c9
    refine ev_r_dr (r := r8) (fun v => [v, .ref 281]) c9 ?_
    refine ev_r_getC (pc := 27) (y := 139) (ci := 5) (f := 6) (fin := 2) (k' := ((r8 - 1) + 7)) (by decide +kernel) (by decide +kernel) (by exact (hr8.resolve_left c9)) rfl rfl ?_
    refine ev_r_iload_n (pc := 30) (k := 1) (v := Int32.ofInt a0) (by decide +kernel) (by exact e6) ?_
    refine ev_r_iald (pc := 31) ha0 (by decide +kernel) (by exact (ev_fo_5_6 (hr8.resolve_left c9))) ?_
    intro x10 hx10
    refine ev_r_putI (pc := 32) (y := 96) (ci := 8) (f := 2) hx10 (by decide +kernel) (by decide +kernel) (by exact ev_ob_281) rfl rfl ?_
    intro s11
    refine ev_r_iconst (pc := 35) (k := 1) (by decide +kernel) ?_
    exact ev_r_ireturn (pc := 36) (x := 1) (v := Int32.ofInt 1) (ty := .boolean) (by decide : ev_bl 1) (by decide +kernel) (by decide +kernel) (ev_ret_bl (by decide : ev_bl 1)) rfl
  · intro K22 hK22
    refine ev_r_icmp (pc := 13) (q := .eq) (o := 9) (t := 22) (c := x3 = 17) (by decide +kernel) (ev_k_eq hx3 (by decide)) (by decide +kernel) ?_ ?_
    · intro c12
      exact hK22  S _ (by exact (ev_l1 (by rfl) (by decide) (by decide))) (by exact (ev_lk_st1 (by rfl) (by decide) rfl))
    · intro c12
      refine ev_r_iload_n (pc := 16) (k := 2) (v := Int32.ofInt x3) (by decide +kernel) (by exact ev_lk_st1_self) ?_
      refine ev_r_bipush (pc := 17) (k := 8) (by decide +kernel) (by decide +kernel) ?_
      refine ev_r_icmp (pc := 19) (q := .ne) (o := 18) (t := 37) (c := x3 ≠ 8) (by decide +kernel) (ev_k_ne hx3 (by decide)) (by decide +kernel) ?_ ?_
      · intro c13
        refine ev_r_aload_n (pc := 37) (k := 0) (v := .ref 281) trivial (by decide +kernel) (by exact (ev_l1 (by rfl) (by decide) (by decide))) ?_
        refine ev_r_aload_n (pc := 38) (k := 0) (v := .ref 281) trivial (by decide +kernel) (by exact (ev_l1 (by rfl) (by decide) (by decide))) ?_
        refine ev_r_getI (pc := 39) (y := 73) (ci := 8) (f := 4) (fin := 0) (by decide +kernel) (by decide +kernel) (by exact ev_ob_281) rfl ?_
        intro x14 hx14
        refine ev_r_virt (pc := 42) (y := 112) (mi := 126) (na := 1) (k := 281) (as := [.int (Int32.ofInt x14)]) (rest := []) (encc := ev_oI) (Q := ev_bl) (fun x S1 h => jt_126 d (by omega) Q x14 hx14 S x S1 h) (by exact ev_ob_281) (by decide +kernel) (by decide +kernel) (by decide +kernel) (by decide +kernel) rfl (by (try simp only [ev_sum, ev_nv_cat]); first | done | rfl) ?_
        intro x16 s15 hx16
        replace hx16 := ev_bl_rng hx16
        show ev_w _ _ _ _ _ [.int (Int32.ofInt x16)] _ _ _ _
        refine ev_r_if (pc := 45) (q := .ne) (o := 5) (t := 50) (c := x16 ≠ 0) (by decide +kernel) (ev_k_ne hx16 ev_rng0) (by decide +kernel) ?_ ?_
        · intro c17
          refine ev_r_iload_n (pc := 50) (k := 2) (v := Int32.ofInt x3) (by decide +kernel) (by exact ev_lk_st1_self) ?_
          refine ev_r_bipush (pc := 51) (k := 13) (by decide +kernel) (by decide +kernel) ?_
          refine ev_r_jn (Q := fun K => ∀ (s21 : ev_St) (w18 : List (Nat × Value)), ev_lk w18 0 = some (.ref 281) → ev_lk w18 1 = some (.int (Int32.ofInt a0)) → ev_w none (ev_Mof 141) d 62 w18 [] s21 (K  s21) ev_eI ev_bl) ?_ ?_
          · intro  s21 w18 e19 e20
            refine ev_r_aload_n (pc := 62) (k := 0) (v := .ref 281) trivial (by decide +kernel) (by exact e19) ?_
            refine ev_r_iload_n (pc := 63) (k := 1) (v := Int32.ofInt a0) (by decide +kernel) (by exact e20) ?_
            refine ev_r_virt (pc := 64) (y := 205) (mi := 145) (na := 1) (k := 281) (as := [.int (Int32.ofInt a0)]) (rest := []) (encc := ev_oI) (Q := ev_bl) (fun x S1 h => jt_145 d (by omega) Q a0 ha0 s21 x S1 h) (by exact ev_ob_281) (by decide +kernel) (by decide +kernel) (by decide +kernel) (by decide +kernel) rfl (by (try simp only [ev_sum, ev_nv_cat]); first | done | rfl) ?_
            intro x23 s22 hx23
            replace hx23 := ev_bl_rng hx23
            show ev_w _ _ _ _ _ [.int (Int32.ofInt x23)] _ _ _ _
            refine ev_r_chk ?_
            intro c24
            exact ev_r_ireturn (pc := 67) (x := x23) (v := Int32.ofInt x23) (ty := .boolean) c24 (by decide +kernel) (by decide +kernel) (ev_ret_bl c24) rfl
          · intro K62 hK62
            refine ev_r_icmp (pc := 53) (q := .eq) (o := 9) (t := 62) (c := x3 = 13) (by decide +kernel) (ev_k_eq hx3 (by decide)) (by decide +kernel) ?_ ?_
            · intro c25
              exact hK62  s15 _ (by exact (ev_l1 (by rfl) (by decide) (by decide))) (by exact (ev_lk_st1 (by rfl) (by decide) rfl))
            · intro c25
              refine ev_r_iload_n (pc := 56) (k := 2) (v := Int32.ofInt x3) (by decide +kernel) (by exact ev_lk_st1_self) ?_
              refine ev_r_bipush (pc := 57) (k := 14) (by decide +kernel) (by decide +kernel) ?_
              refine ev_r_icmp (pc := 59) (q := .ne) (o := 9) (t := 68) (c := x3 ≠ 14) (by decide +kernel) (ev_k_ne hx3 (by decide)) (by decide +kernel) ?_ ?_
              · intro c26
                refine ev_r_iload_n (pc := 68) (k := 2) (v := Int32.ofInt x3) (by decide +kernel) (by exact ev_lk_st1_self) ?_
                refine ev_r_bipush (pc := 69) (k := 19) (by decide +kernel) (by decide +kernel) ?_
                refine ev_r_icmp (pc := 71) (q := .lt) (o := 9) (t := 80) (c := x3 < 19) (by decide +kernel) (ev_k_lt hx3 (by decide)) (by decide +kernel) ?_ ?_
                · intro c27
                  refine ev_r_aload_n (pc := 80) (k := 0) (v := .ref 281) trivial (by decide +kernel) (by exact (ev_l1 (by rfl) (by decide) (by decide))) ?_
                  refine ev_r_getC (pc := 81) (y := 14) (ci := 8) (f := 6) (fin := 1) (k' := 282) (by decide +kernel) (by decide +kernel) (by exact ev_ob_281) rfl rfl ?_
                  refine ev_r_aload_n (pc := 84) (k := 0) (v := .ref 281) trivial (by decide +kernel) (by exact (ev_l1 (by rfl) (by decide) (by decide))) ?_
                  refine ev_r_getI (pc := 85) (y := 73) (ci := 8) (f := 4) (fin := 0) (by decide +kernel) (by decide +kernel) (by exact ev_ob_281) rfl ?_
                  intro x28 hx28
                  refine ev_r_iconst (pc := 88) (k := 1) (by decide +kernel) ?_
                  refine ev_r_iadd (pc := 89) (by decide +kernel) ?_
                  intro x29 hx29
                  refine ev_r_iald (pc := 90) hx29 (by decide +kernel) (by exact ev_ab_282) ?_
                  intro x30 hx30
                  refine ev_r_bipush (pc := 91) (k := 7) (by decide +kernel) (by decide +kernel) ?_
                  refine ev_r_iand (pc := 93) (by decide +kernel) ?_
                  intro x31 hx31
                  refine ev_r_iconst (pc := 94) (k := 2) (by decide +kernel) ?_
                  refine ev_r_jn (Q := fun K => ∀ (s34 : ev_St) (w32 : List (Nat × Value)), ev_lk w32 0 = some (.ref 281) → ev_w none (ev_Mof 141) d 180 w32 [] s34 (K  s34) ev_eI ev_bl) ?_ ?_
                  · intro  s34 w32 e33
                    refine ev_r_aload_n (pc := 180) (k := 0) (v := .ref 281) trivial (by decide +kernel) (by exact e33) ?_
                    refine ev_r_aload_n (pc := 181) (k := 0) (v := .ref 281) trivial (by decide +kernel) (by exact e33) ?_
                    refine ev_r_getC (pc := 182) (y := 14) (ci := 8) (f := 6) (fin := 1) (k' := 282) (by decide +kernel) (by decide +kernel) (by exact ev_ob_281) rfl rfl ?_
                    refine ev_r_aload_n (pc := 185) (k := 0) (v := .ref 281) trivial (by decide +kernel) (by exact e33) ?_
                    refine ev_r_getI (pc := 186) (y := 73) (ci := 8) (f := 4) (fin := 0) (by decide +kernel) (by decide +kernel) (by exact ev_ob_281) rfl ?_
                    intro x35 hx35
                    refine ev_r_iald (pc := 189) hx35 (by decide +kernel) (by exact ev_ab_282) ?_
                    intro x36 hx36
                    refine ev_r_putI (pc := 190) (y := 73) (ci := 8) (f := 4) hx36 (by decide +kernel) (by decide +kernel) (by exact ev_ob_281) rfl rfl ?_
                    intro s37
                    refine ev_r_iconst (pc := 193) (k := 1) (by decide +kernel) ?_
                    exact ev_r_ireturn (pc := 194) (x := 1) (v := Int32.ofInt 1) (ty := .boolean) (by decide : ev_bl 1) (by decide +kernel) (by decide +kernel) (ev_ret_bl (by decide : ev_bl 1)) rfl
                  · intro K180 hK180
                    refine ev_r_icmp (pc := 95) (q := .ne) (o := 36) (t := 131) (c := x31 ≠ 2) (by decide +kernel) (ev_k_ne hx31 (by decide)) (by decide +kernel) ?_ ?_
                    · intro c38
                      refine ev_r_aload_n (pc := 131) (k := 0) (v := .ref 281) trivial (by decide +kernel) (by exact (ev_l1 (by rfl) (by decide) (by decide))) ?_
                      refine ev_r_aload_n (pc := 132) (k := 0) (v := .ref 281) trivial (by decide +kernel) (by exact (ev_l1 (by rfl) (by decide) (by decide))) ?_
                      refine ev_r_aload_n (pc := 133) (k := 0) (v := .ref 281) trivial (by decide +kernel) (by exact (ev_l1 (by rfl) (by decide) (by decide))) ?_
                      refine ev_r_getI (pc := 134) (y := 76) (ci := 8) (f := 5) (fin := 0) (by decide +kernel) (by decide +kernel) (by exact ev_ob_281) rfl ?_
                      intro x39 hx39
                      refine ev_r_aload_n (pc := 137) (k := 0) (v := .ref 281) trivial (by decide +kernel) (by exact (ev_l1 (by rfl) (by decide) (by decide))) ?_
                      refine ev_r_getR (pc := 138) (y := 58) (ci := 8) (f := 0) (fin := 0) (t := 5) (by decide +kernel) (by decide +kernel) (by exact ev_ob_281) rfl rfl ?_
                      intro r40 hr40
                      have hr40 : r40 = 0 ∨ ev_isOb (r40 - 1) 5 = true := hr40
                      refine ev_r_chk ?_
                      intro c41
                      refine ev_r_dr (r := r40) (fun v => [v, .int (Int32.ofInt x39), .ref 281, .ref 281]) c41 ?_
                      refine ev_r_getC (pc := 141) (y := 184) (ci := 5) (f := 1) (fin := 2) (k' := ((r40 - 1) + 2)) (by decide +kernel) (by decide +kernel) (by exact (hr40.resolve_left c41)) rfl rfl ?_
                      refine ev_r_iload_n (pc := 144) (k := 1) (v := Int32.ofInt a0) (by decide +kernel) (by exact (ev_lk_st1 (by rfl) (by decide) rfl)) ?_
                      refine ev_r_iald (pc := 145) ha0 (by decide +kernel) (by exact (ev_fo_5_1 (hr40.resolve_left c41))) ?_
                      intro x42 hx42
                      refine ev_r_aload_n (pc := 146) (k := 0) (v := .ref 281) trivial (by decide +kernel) (by exact (ev_l1 (by rfl) (by decide) (by decide))) ?_
                      refine ev_r_getC (pc := 147) (y := 14) (ci := 8) (f := 6) (fin := 1) (k' := 282) (by decide +kernel) (by decide +kernel) (by exact ev_ob_281) rfl rfl ?_
                      refine ev_r_aload_n (pc := 150) (k := 0) (v := .ref 281) trivial (by decide +kernel) (by exact (ev_l1 (by rfl) (by decide) (by decide))) ?_
                      refine ev_r_getI (pc := 151) (y := 73) (ci := 8) (f := 4) (fin := 0) (by decide +kernel) (by decide +kernel) (by exact ev_ob_281) rfl ?_
                      intro x43 hx43
                      refine ev_r_iconst (pc := 154) (k := 2) (by decide +kernel) ?_
                      refine ev_r_iadd (pc := 155) (by decide +kernel) ?_
                      intro x44 hx44
                      refine ev_r_iald (pc := 156) hx44 (by decide +kernel) (by exact ev_ab_282) ?_
                      intro x45 hx45
                      refine ev_r_aload_n (pc := 157) (k := 0) (v := .ref 281) trivial (by decide +kernel) (by exact (ev_l1 (by rfl) (by decide) (by decide))) ?_
                      refine ev_r_getI (pc := 158) (y := 70) (ci := 8) (f := 3) (fin := 0) (by decide +kernel) (by decide +kernel) (by exact ev_ob_281) rfl ?_
                      intro x46 hx46
                      refine ev_r_virt (pc := 161) (y := 115) (mi := 125) (na := 4) (k := 281) (as := [.int (Int32.ofInt x39), .int (Int32.ofInt x42), .int (Int32.ofInt x45), .int (Int32.ofInt x46)]) (rest := [.ref 281]) (encc := ev_oI) (Q := ev_rng) (fun x S1 h => jt_125 d (by omega) Q x39 x42 x45 x46 hx39 hx42 hx45 hx46 s15 x S1 h) (by exact ev_ob_281) (by decide +kernel) (by decide +kernel) (by decide +kernel) (by decide +kernel) rfl (by (try simp only [ev_sum, ev_nv_cat]); first | done | rfl) ?_
                      intro x48 s47 hx48
                      show ev_w _ _ _ _ _ [.int (Int32.ofInt x48), .ref 281] _ _ _ _
                      refine ev_r_putI (pc := 164) (y := 76) (ci := 8) (f := 5) hx48 (by decide +kernel) (by decide +kernel) (by exact ev_ob_281) rfl rfl ?_
                      intro s49
                      refine ev_r_aload_n (pc := 167) (k := 0) (v := .ref 281) trivial (by decide +kernel) (by exact (ev_l1 (by rfl) (by decide) (by decide))) ?_
                      refine ev_r_aload_n (pc := 168) (k := 0) (v := .ref 281) trivial (by decide +kernel) (by exact (ev_l1 (by rfl) (by decide) (by decide))) ?_
                      refine ev_r_getR (pc := 169) (y := 58) (ci := 8) (f := 0) (fin := 0) (t := 5) (by decide +kernel) (by decide +kernel) (by exact ev_ob_281) rfl rfl ?_
                      intro r50 hr50
                      have hr50 : r50 = 0 ∨ ev_isOb (r50 - 1) 5 = true := hr50
                      refine ev_r_chk ?_
                      intro c51
                      refine ev_r_dr (r := r50) (fun v => [v, .ref 281]) c51 ?_
                      refine ev_r_getC (pc := 172) (y := 139) (ci := 5) (f := 6) (fin := 2) (k' := ((r50 - 1) + 7)) (by decide +kernel) (by decide +kernel) (by exact (hr50.resolve_left c51)) rfl rfl ?_
                      refine ev_r_iload_n (pc := 175) (k := 1) (v := Int32.ofInt a0) (by decide +kernel) (by exact (ev_lk_st1 (by rfl) (by decide) rfl)) ?_
                      refine ev_r_iald (pc := 176) ha0 (by decide +kernel) (by exact (ev_fo_5_6 (hr50.resolve_left c51))) ?_
                      intro x52 hx52
                      refine ev_r_putI (pc := 177) (y := 96) (ci := 8) (f := 2) hx52 (by decide +kernel) (by decide +kernel) (by exact ev_ob_281) rfl rfl ?_
                      intro s53
                      exact hK180  s53 _ (by exact (ev_l1 (by rfl) (by decide) (by decide)))
                    · intro c38
                      refine ev_r_aload_n (pc := 98) (k := 0) (v := .ref 281) trivial (by decide +kernel) (by exact (ev_l1 (by rfl) (by decide) (by decide))) ?_
                      refine ev_r_aload_n (pc := 99) (k := 0) (v := .ref 281) trivial (by decide +kernel) (by exact (ev_l1 (by rfl) (by decide) (by decide))) ?_
                      refine ev_r_getC (pc := 100) (y := 14) (ci := 8) (f := 6) (fin := 1) (k' := 282) (by decide +kernel) (by decide +kernel) (by exact ev_ob_281) rfl rfl ?_
                      refine ev_r_aload_n (pc := 103) (k := 0) (v := .ref 281) trivial (by decide +kernel) (by exact (ev_l1 (by rfl) (by decide) (by decide))) ?_
                      refine ev_r_getI (pc := 104) (y := 73) (ci := 8) (f := 4) (fin := 0) (by decide +kernel) (by decide +kernel) (by exact ev_ob_281) rfl ?_
                      intro x54 hx54
                      refine ev_r_iconst (pc := 107) (k := 2) (by decide +kernel) ?_
                      refine ev_r_iadd (pc := 108) (by decide +kernel) ?_
                      intro x55 hx55
                      refine ev_r_iald (pc := 109) hx55 (by decide +kernel) (by exact ev_ab_282) ?_
                      intro x56 hx56
                      refine ev_r_putI (pc := 110) (y := 96) (ci := 8) (f := 2) hx56 (by decide +kernel) (by decide +kernel) (by exact ev_ob_281) rfl rfl ?_
                      intro s57
                      refine ev_r_aload_n (pc := 113) (k := 0) (v := .ref 281) trivial (by decide +kernel) (by exact (ev_l1 (by rfl) (by decide) (by decide))) ?_
                      refine ev_r_aload_n (pc := 114) (k := 0) (v := .ref 281) trivial (by decide +kernel) (by exact (ev_l1 (by rfl) (by decide) (by decide))) ?_
                      refine ev_r_getC (pc := 115) (y := 14) (ci := 8) (f := 6) (fin := 1) (k' := 282) (by decide +kernel) (by decide +kernel) (by exact ev_ob_281) rfl rfl ?_
                      refine ev_r_aload_n (pc := 118) (k := 0) (v := .ref 281) trivial (by decide +kernel) (by exact (ev_l1 (by rfl) (by decide) (by decide))) ?_
                      refine ev_r_getI (pc := 119) (y := 73) (ci := 8) (f := 4) (fin := 0) (by decide +kernel) (by decide +kernel) (by exact ev_ob_281) rfl ?_
                      intro x58 hx58
                      refine ev_r_iconst (pc := 122) (k := 3) (by decide +kernel) ?_
                      refine ev_r_iadd (pc := 123) (by decide +kernel) ?_
                      intro x59 hx59
                      refine ev_r_iald (pc := 124) hx59 (by decide +kernel) (by exact ev_ab_282) ?_
                      intro x60 hx60
                      refine ev_r_putI (pc := 125) (y := 76) (ci := 8) (f := 5) hx60 (by decide +kernel) (by decide +kernel) (by exact ev_ob_281) rfl rfl ?_
                      intro s61
                      refine ev_r_goto (pc := 128) (o := 52) (t := 180) (by decide +kernel) (by decide +kernel) ?_
                      exact hK180  s61 _ (by exact (ev_l1 (by rfl) (by decide) (by decide)))
                · intro c27
                  refine ev_r_aload_n (pc := 74) (k := 0) (v := .ref 281) trivial (by decide +kernel) (by exact (ev_l1 (by rfl) (by decide) (by decide))) ?_
                  refine ev_r_iload_n (pc := 75) (k := 1) (v := Int32.ofInt a0) (by decide +kernel) (by exact (ev_lk_st1 (by rfl) (by decide) rfl)) ?_
                  refine ev_r_virt (pc := 76) (y := 208) (mi := 142) (na := 1) (k := 281) (as := [.int (Int32.ofInt a0)]) (rest := []) (encc := ev_oI) (Q := ev_bl) (fun x S1 h => jt_142 d (by omega) Q a0 ha0 s15 x S1 h) (by exact ev_ob_281) (by decide +kernel) (by decide +kernel) (by decide +kernel) (by decide +kernel) rfl (by (try simp only [ev_sum, ev_nv_cat]); first | done | rfl) ?_
                  intro x63 s62 hx63
                  replace hx63 := ev_bl_rng hx63
                  show ev_w _ _ _ _ _ [.int (Int32.ofInt x63)] _ _ _ _
                  refine ev_r_chk ?_
                  intro c64
                  exact ev_r_ireturn (pc := 79) (x := x63) (v := Int32.ofInt x63) (ty := .boolean) c64 (by decide +kernel) (by decide +kernel) (ev_ret_bl c64) rfl
              · intro c26
                exact hK62  s15 _ (by exact (ev_l1 (by rfl) (by decide) (by decide))) (by exact (ev_lk_st1 (by rfl) (by decide) rfl))
        · intro c17
          refine ev_r_iconst (pc := 48) (k := 0) (by decide +kernel) ?_
          exact ev_r_ireturn (pc := 49) (x := 0) (v := Int32.ofInt 0) (ty := .boolean) (by decide : ev_bl 0) (by decide +kernel) (by decide +kernel) (ev_ret_bl (by decide : ev_bl 0)) rfl
      · intro c13
        exact hK22  S _ (by exact (ev_l1 (by rfl) (by decide) (by decide))) (by exact (ev_lk_st1 (by rfl) (by decide) rfl))
/-- MendBench$Search.beginRound(I)Z -/
def jm_144 (Q : Nat) (a0 : Int) (S : ev_St) : Option ((Int) × ev_St) := ev_b (S.2.2.1 281 0) fun r1 => ev_if (r1 ≠ 0) (ev_if ((0 : Int) ≤ a0 ∧ a0 < (ev_aln (((r1 - 1) + 4)) : Int)) (ev_b (S.1 (((r1 - 1) + 4)) (Int.toNat a0)) fun x3 => ev_ck (4 * x3) fun x4 => ev_ck (x4 + 0) fun x5 => ev_b (ev_pI S 281 2 x5) fun s6 => ev_bd (jm_123 Q  s6) fun x8 s7 => ev_if (ev_bl x8) (some (x8, s7))))
theorem jt_144 (d : Nat) (hd : 2 ≤ d) (Q : Nat) (a0 : Int) (ha0 : ev_rng a0) (S : ev_St) (x : Int) (S' : ev_St) (hJ : jm_144 Q a0 S = some (x, S')) : ev_Ref d 144 [.ref 281, .int (Int32.ofInt a0)] S (ev_eI x) S' (ev_bl x) := by
  obtain ⟨d, rfl⟩ : ∃ e, d = e + 1 := ⟨d - 1, by omega⟩
  refine ev_ref_of (P := ev_bl) (lv := [(0, .ref 281), (1, .int (Int32.ofInt a0))]) (by decide +kernel) (by (try simp only [ev_sum, ev_nv_cat]); first | done | rfl) (by (try simp only [lv_args, ev_nv_cat]); first | done | rfl) ?_ x S' hJ
  unfold jm_144
  refine ev_r_aload_n (pc := 0) (k := 0) (v := .ref 281) trivial (by decide +kernel) (by rfl) ?_
  refine ev_r_iconst (pc := 1) (k := 4) (by decide +kernel) ?_
  refine ev_r_aload_n (pc := 2) (k := 0) (v := .ref 281) trivial (by decide +kernel) (by rfl) ?_
  refine ev_r_getR (pc := 3) (y := 58) (ci := 8) (f := 0) (fin := 0) (t := 5) (by decide +kernel) (by decide +kernel) (by exact ev_ob_281) rfl rfl ?_
  intro r1 hr1
  have hr1 : r1 = 0 ∨ ev_isOb (r1 - 1) 5 = true := hr1
  refine ev_r_chk ?_
  intro c2
  refine ev_r_dr (r := r1) (fun v => [v, .int (Int32.ofInt 4), .ref 281]) c2 ?_
  refine ev_r_getC (pc := 6) (y := 193) (ci := 5) (f := 3) (fin := 2) (k' := ((r1 - 1) + 4)) (by decide +kernel) (by decide +kernel) (by exact (hr1.resolve_left c2)) rfl rfl ?_
  refine ev_r_iload_n (pc := 9) (k := 1) (v := Int32.ofInt a0) (by decide +kernel) (by rfl) ?_
  refine ev_r_iald (pc := 10) ha0 (by decide +kernel) (by exact (ev_fo_5_3 (hr1.resolve_left c2))) ?_
  intro x3 hx3
  refine ev_r_imul (pc := 11) (by decide +kernel) ?_
  intro x4 hx4
  refine ev_r_iconst (pc := 12) (k := 0) (by decide +kernel) ?_
  refine ev_r_iadd (pc := 13) (by decide +kernel) ?_
  intro x5 hx5
  refine ev_r_putI (pc := 14) (y := 96) (ci := 8) (f := 2) hx5 (by decide +kernel) (by decide +kernel) (by exact ev_ob_281) rfl rfl ?_
  intro s6
  refine ev_r_aload_n (pc := 17) (k := 0) (v := .ref 281) trivial (by decide +kernel) (by rfl) ?_
  refine ev_r_virt (pc := 18) (y := 135) (mi := 123) (na := 0) (k := 281) (as := []) (rest := []) (encc := ev_oI) (Q := ev_bl) (fun x S1 h => jt_123 d (by omega) Q   s6 x S1 h) (by exact ev_ob_281) (by decide +kernel) (by decide +kernel) (by decide +kernel) (by decide +kernel) rfl (by (try simp only [ev_sum, ev_nv_cat]); first | done | rfl) ?_
  intro x8 s7 hx8
  replace hx8 := ev_bl_rng hx8
  show ev_w _ _ _ _ _ [.int (Int32.ofInt x8)] _ _ _ _
  refine ev_r_chk ?_
  intro c9
  exact ev_r_ireturn (pc := 21) (x := x8) (v := Int32.ofInt x8) (ty := .boolean) c9 (by decide +kernel) (by decide +kernel) (ev_ret_bl c9) rfl
def jb_122_74 (Q : Nat)   (K74 : Int → Int → ev_St → Option ((Int) × ev_St)) (x20 : Int) (x21 : Int) (s26 : ev_St) : Option ((Int) × ev_St) := if 100000000 ≤ x21 then (ev_b (ev_pI s26 281 10 1) fun s28 => some (2, s28)) else (ev_jn (fun  (s32 : ev_St) => ev_b (s32.1 281 2) fun x33 => ev_b (ev_ishr x33 2) fun x34 => ev_b (s32.1 281 2) fun x35 => ev_b (ev_iand x35 3) fun x36 => ev_b (s32.2.2.1 281 0) fun r37 => ev_if (r37 ≠ 0) (ev_bd (jm_59 Q ((r37 - 1)) x34 s32) fun x40 s39 => if x40 ≠ 0 then (ev_jn (fun  (s47 : ev_St) => ev_jn (fun (x48 : Int) (s52 : ev_St) => ev_b (s52.1 281 10) fun x53 => if x53 = 0 then (ev_ck (x21 + 1) fun x55 => K74 x48 x55 s52) else (some (2, s52))) fun K198 => if x36 ≠ 0 then (if x36 ≠ 1 then (ev_bd (jm_144 Q x34 s47) fun x59 s58 => K198 x59 s58) else (ev_bd (jm_141 Q x34 s47) fun x61 s60 => K198 x61 s60)) else (ev_bd (jm_136 Q x34 s47) fun x63 s62 => K198 x63 s62)) fun K163 => if x36 ≠ 1 then (K163  s39) else (ev_b (s39.2.2.1 281 0) fun r65 => ev_if (r65 ≠ 0) (ev_bd (jm_60 Q ((r65 - 1)) s39) fun x68 s67 => if x34 ≠ x68 then (K163  s67) else (ev_b (s67.1 281 4) fun x70 => if 0 ≤ x70 then (K163  s67) else (ev_b (s67.1 281 3) fun x72 => ev_b (ev_pI s67 281 12 x72) fun s73 => some (1, s73)))))) else (some (2, s39)))) fun K98 => if x20 ≠ 0 then (K98  s26) else (ev_bd (jm_131 Q  s26) fun x76 s75 => if x76 = 0 then (K98  s75) else (some (x76, s75))))
def jl_122_74 (Q : Nat)   : Nat → Int → Int → ev_St → Option ((Int) × ev_St)
  | 0 => fun _ _ _ => none
  | q + 1 => jb_122_74 Q   (jl_122_74 Q   q)
theorem jbt_122_74 (d : Nat) (hd : 5 ≤ d + 1) (Q : Nat)     (K74 : Int → Int → ev_St → Option ((Int) × ev_St)) (hK74 : ∀ (x20 : Int) (hx20 : ev_rng x20), ∀ (x21 : Int) (hx21 : ev_rng x21), ∀ (s26 : ev_St) (w22 : List (Nat × Value)), ev_lk w22 0 = some (.ref 281) → ev_lk w22 2 = some (.int (Int32.ofInt x20)) → ev_lk w22 3 = some (.int (Int32.ofInt x21)) → ev_w none (ev_Mof 122) d 74 w22 [] s26 (K74 x20 x21 s26) ev_eI ev_rng) : ∀ (x20 : Int) (hx20 : ev_rng x20), ∀ (x21 : Int) (hx21 : ev_rng x21), ∀ (s26 : ev_St) (w22 : List (Nat × Value)), ev_lk w22 0 = some (.ref 281) → ev_lk w22 2 = some (.int (Int32.ofInt x20)) → ev_lk w22 3 = some (.int (Int32.ofInt x21)) → ev_w none (ev_Mof 122) d 74 w22 [] s26 (jb_122_74 Q   K74 x20 x21 s26) ev_eI ev_rng := by
  intro x20 hx20 x21 hx21 s26 w22 e23 e24 e25
  unfold jb_122_74
  refine ev_r_iload_n (pc := 74) (k := 3) (v := Int32.ofInt x21) (by decide +kernel) (by exact e25) ?_
  refine ev_r_ldc (pc := 75) (y := 99) (k := 100000000) (by decide +kernel) (by decide +kernel) ?_
  refine ev_r_icmp (pc := 77) (q := .ge) (o := 137) (t := 214) (c := 100000000 ≤ x21) (by decide +kernel) (ev_k_ge hx21 (by decide)) (by decide +kernel) ?_ ?_
  · intro c27
    refine ev_r_aload_n (pc := 214) (k := 0) (v := .ref 281) trivial (by decide +kernel) (by exact e23) ?_
    refine ev_r_iconst (pc := 215) (k := 1) (by decide +kernel) ?_
    refine ev_r_putI (pc := 216) (y := 39) (ci := 8) (f := 10) (by decide) (by decide +kernel) (by decide +kernel) (by exact ev_ob_281) rfl (ev_fit_bl (by decide : ev_bl 1)) ?_
    intro s28
    refine ev_r_iconst (pc := 219) (k := 2) (by decide +kernel) ?_
    exact ev_r_ireturn (pc := 220) (x := 2) (v := Int32.ofInt 2) (ty := .int) (by decide) (by decide +kernel) (by decide +kernel) rfl rfl
  · intro c27
    refine ev_r_iload_n (pc := 80) (k := 2) (v := Int32.ofInt x20) (by decide +kernel) (by exact e24) ?_
    refine ev_r_jn (Q := fun K => ∀ (s32 : ev_St) (w29 : List (Nat × Value)), ev_lk w29 0 = some (.ref 281) → ev_lk w29 3 = some (.int (Int32.ofInt x21)) → ev_w none (ev_Mof 122) d 98 w29 [] s32 (K  s32) ev_eI ev_rng) ?_ ?_
    · intro  s32 w29 e30 e31
      refine ev_r_aload_n (pc := 98) (k := 0) (v := .ref 281) trivial (by decide +kernel) (by exact e30) ?_
      refine ev_r_getI (pc := 99) (y := 96) (ci := 8) (f := 2) (fin := 0) (by decide +kernel) (by decide +kernel) (by exact ev_ob_281) rfl ?_
      intro x33 hx33
      refine ev_r_iconst (pc := 102) (k := 2) (by decide +kernel) ?_
      refine ev_r_ishr (pc := 103) (by decide +kernel) ?_
      intro x34 hx34
      refine ev_r_istore (pc := 104) (k := 4) (by decide +kernel) (by decide +kernel) rfl ?_
      refine ev_r_aload_n (pc := 106) (k := 0) (v := .ref 281) trivial (by decide +kernel) (by exact (ev_l1 e30 (by decide) (by decide))) ?_
      refine ev_r_getI (pc := 107) (y := 96) (ci := 8) (f := 2) (fin := 0) (by decide +kernel) (by decide +kernel) (by exact ev_ob_281) rfl ?_
      intro x35 hx35
      refine ev_r_iconst (pc := 110) (k := 3) (by decide +kernel) ?_
      refine ev_r_iand (pc := 111) (by decide +kernel) ?_
      intro x36 hx36
      refine ev_r_istore (pc := 112) (k := 5) (by decide +kernel) (by decide +kernel) rfl ?_
      refine ev_r_aload_n (pc := 114) (k := 0) (v := .ref 281) trivial (by decide +kernel) (by exact (ev_l1 (ev_l1 e30 (by decide) (by decide)) (by decide) (by decide))) ?_
      refine ev_r_getR (pc := 115) (y := 58) (ci := 8) (f := 0) (fin := 0) (t := 5) (by decide +kernel) (by decide +kernel) (by exact ev_ob_281) rfl rfl ?_
      intro r37 hr37
      have hr37 : r37 = 0 ∨ ev_isOb (r37 - 1) 5 = true := hr37
      refine ev_r_iload (pc := 118) (k := 4) (v := Int32.ofInt x34) (by decide +kernel) (by exact (ev_lk_st1 ev_lk_st1_self (by decide) rfl)) ?_
      refine ev_r_chk ?_
      intro c38
      refine ev_r_dr (r := r37) (fun v => [.int (Int32.ofInt x34), v]) c38 ?_
      refine ev_r_virt (pc := 120) (y := 89) (mi := 59) (na := 1) (k := (r37 - 1)) (as := [.int (Int32.ofInt x34)]) (rest := []) (encc := ev_oI) (Q := ev_bl) (fun x S1 h => jt_59 d (by omega) Q ((r37 - 1)) x34 (hr37.resolve_left c38) hx34 s32 x S1 h) (by exact (hr37.resolve_left c38)) (by decide +kernel) (by decide +kernel) (by decide +kernel) (by decide +kernel) rfl (by (try simp only [ev_sum, ev_nv_cat]); first | done | rfl) ?_
      intro x40 s39 hx40
      replace hx40 := ev_bl_rng hx40
      show ev_w _ _ _ _ _ [.int (Int32.ofInt x40)] _ _ _ _
      refine ev_r_if (pc := 123) (q := .ne) (o := 5) (t := 128) (c := x40 ≠ 0) (by decide +kernel) (ev_k_ne hx40 ev_rng0) (by decide +kernel) ?_ ?_
      · intro c41
        refine ev_r_iload (pc := 128) (k := 5) (v := Int32.ofInt x36) (by decide +kernel) (by exact ev_lk_st1_self) ?_
        refine ev_r_iconst (pc := 130) (k := 1) (by decide +kernel) ?_
        refine ev_r_jn (Q := fun K => ∀ (s47 : ev_St) (w42 : List (Nat × Value)), ev_lk w42 0 = some (.ref 281) → ev_lk w42 3 = some (.int (Int32.ofInt x21)) → ev_lk w42 4 = some (.int (Int32.ofInt x34)) → ev_lk w42 5 = some (.int (Int32.ofInt x36)) → ev_w none (ev_Mof 122) d 163 w42 [] s47 (K  s47) ev_eI ev_rng) ?_ ?_
        · intro  s47 w42 e43 e44 e45 e46
          refine ev_r_iload (pc := 163) (k := 5) (v := Int32.ofInt x36) (by decide +kernel) (by exact e46) ?_
          refine ev_r_jn (Q := fun K => ∀ (x48 : Int) (hx48 : ev_rng x48), ∀ (s52 : ev_St) (w49 : List (Nat × Value)), ev_lk w49 0 = some (.ref 281) → ev_lk w49 3 = some (.int (Int32.ofInt x21)) → ev_w none (ev_Mof 122) d 198 w49 [.int (Int32.ofInt x48)] s52 (K x48 s52) ev_eI ev_rng) ?_ ?_
          · intro x48 hx48 s52 w49 e50 e51
            refine ev_r_istore_n (pc := 198) (k := 2) (by decide +kernel) (by decide +kernel) rfl ?_
            refine ev_r_aload_n (pc := 199) (k := 0) (v := .ref 281) trivial (by decide +kernel) (by exact (ev_l1 e50 (by decide) (by decide))) ?_
            refine ev_r_getI (pc := 200) (y := 39) (ci := 8) (f := 10) (fin := 0) (by decide +kernel) (by decide +kernel) (by exact ev_ob_281) rfl ?_
            intro x53 hx53
            refine ev_r_if (pc := 203) (q := .eq) (o := 5) (t := 208) (c := x53 = 0) (by decide +kernel) (ev_k_eq hx53 ev_rng0) (by decide +kernel) ?_ ?_
            · intro c54
              refine ev_r_iinc (pc := 208) (k := 3) (c := 1) (x := x21) (by decide +kernel) (by decide +kernel) (by exact (ev_l1 e51 (by decide) (by decide))) (fun _ => rfl) ?_
              intro x55 hx55
              refine ev_r_goto (pc := 211) (o := (-137)) (t := 74) (by decide +kernel) (by decide +kernel) ?_
              exact hK74 x48 hx48 x55 hx55 s52 _ (by exact (ev_l1 (ev_l1 e50 (by decide) (by decide)) (by decide) (by decide))) (by exact (ev_lk_st1 ev_lk_st1_self (by decide) rfl)) (by exact ev_lk_st1_self)
            · intro c54
              refine ev_r_iconst (pc := 206) (k := 2) (by decide +kernel) ?_
              exact ev_r_ireturn (pc := 207) (x := 2) (v := Int32.ofInt 2) (ty := .int) (by decide) (by decide +kernel) (by decide +kernel) rfl rfl
          · intro K198 hK198
            refine ev_r_if (pc := 165) (q := .ne) (o := 12) (t := 177) (c := x36 ≠ 0) (by decide +kernel) (ev_k_ne hx36 ev_rng0) (by decide +kernel) ?_ ?_
            · intro c56
              refine ev_r_iload (pc := 177) (k := 5) (v := Int32.ofInt x36) (by decide +kernel) (by exact e46) ?_
              refine ev_r_iconst (pc := 179) (k := 1) (by decide +kernel) ?_
              refine ev_r_icmp (pc := 180) (q := .ne) (o := 12) (t := 192) (c := x36 ≠ 1) (by decide +kernel) (ev_k_ne hx36 (by decide)) (by decide +kernel) ?_ ?_
              · intro c57
                refine ev_r_aload_n (pc := 192) (k := 0) (v := .ref 281) trivial (by decide +kernel) (by exact e43) ?_
                refine ev_r_iload (pc := 193) (k := 4) (v := Int32.ofInt x34) (by decide +kernel) (by exact e45) ?_
                refine ev_r_virt (pc := 195) (y := 109) (mi := 144) (na := 1) (k := 281) (as := [.int (Int32.ofInt x34)]) (rest := []) (encc := ev_oI) (Q := ev_bl) (fun x S1 h => jt_144 d (by omega) Q x34 hx34 s47 x S1 h) (by exact ev_ob_281) (by decide +kernel) (by decide +kernel) (by decide +kernel) (by decide +kernel) rfl (by (try simp only [ev_sum, ev_nv_cat]); first | done | rfl) ?_
                intro x59 s58 hx59
                replace hx59 := ev_bl_rng hx59
                show ev_w _ _ _ _ _ [.int (Int32.ofInt x59)] _ _ _ _
                exact hK198 x59 hx59 s58 _ (by exact e43) (by exact e44)
              · intro c57
                refine ev_r_aload_n (pc := 183) (k := 0) (v := .ref 281) trivial (by decide +kernel) (by exact e43) ?_
                refine ev_r_iload (pc := 184) (k := 4) (v := Int32.ofInt x34) (by decide +kernel) (by exact e45) ?_
                refine ev_r_virt (pc := 186) (y := 106) (mi := 141) (na := 1) (k := 281) (as := [.int (Int32.ofInt x34)]) (rest := []) (encc := ev_oI) (Q := ev_bl) (fun x S1 h => jt_141 d (by omega) Q x34 hx34 s47 x S1 h) (by exact ev_ob_281) (by decide +kernel) (by decide +kernel) (by decide +kernel) (by decide +kernel) rfl (by (try simp only [ev_sum, ev_nv_cat]); first | done | rfl) ?_
                intro x61 s60 hx61
                replace hx61 := ev_bl_rng hx61
                show ev_w _ _ _ _ _ [.int (Int32.ofInt x61)] _ _ _ _
                refine ev_r_goto (pc := 189) (o := 9) (t := 198) (by decide +kernel) (by decide +kernel) ?_
                exact hK198 x61 hx61 s60 _ (by exact e43) (by exact e44)
            · intro c56
              refine ev_r_aload_n (pc := 168) (k := 0) (v := .ref 281) trivial (by decide +kernel) (by exact e43) ?_
              refine ev_r_iload (pc := 169) (k := 4) (v := Int32.ofInt x34) (by decide +kernel) (by exact e45) ?_
              refine ev_r_virt (pc := 171) (y := 103) (mi := 136) (na := 1) (k := 281) (as := [.int (Int32.ofInt x34)]) (rest := []) (encc := ev_oI) (Q := ev_bl) (fun x S1 h => jt_136 d (by omega) Q x34 hx34 s47 x S1 h) (by exact ev_ob_281) (by decide +kernel) (by decide +kernel) (by decide +kernel) (by decide +kernel) rfl (by (try simp only [ev_sum, ev_nv_cat]); first | done | rfl) ?_
              intro x63 s62 hx63
              replace hx63 := ev_bl_rng hx63
              show ev_w _ _ _ _ _ [.int (Int32.ofInt x63)] _ _ _ _
              refine ev_r_goto (pc := 174) (o := 24) (t := 198) (by decide +kernel) (by decide +kernel) ?_
              exact hK198 x63 hx63 s62 _ (by exact e43) (by exact e44)
        · intro K163 hK163
          refine ev_r_icmp (pc := 131) (q := .ne) (o := 32) (t := 163) (c := x36 ≠ 1) (by decide +kernel) (ev_k_ne hx36 (by decide)) (by decide +kernel) ?_ ?_
          · intro c64
            exact hK163  s39 _ (by exact (ev_l1 (ev_l1 e30 (by decide) (by decide)) (by decide) (by decide))) (by exact (ev_l1 (ev_lk_st1 e31 (by decide) rfl) (by decide) (by decide))) (by exact (ev_lk_st1 ev_lk_st1_self (by decide) rfl)) (by exact ev_lk_st1_self)
          · intro c64
            refine ev_r_iload (pc := 134) (k := 4) (v := Int32.ofInt x34) (by decide +kernel) (by exact (ev_lk_st1 ev_lk_st1_self (by decide) rfl)) ?_
            refine ev_r_aload_n (pc := 136) (k := 0) (v := .ref 281) trivial (by decide +kernel) (by exact (ev_l1 (ev_l1 e30 (by decide) (by decide)) (by decide) (by decide))) ?_
            refine ev_r_getR (pc := 137) (y := 58) (ci := 8) (f := 0) (fin := 0) (t := 5) (by decide +kernel) (by decide +kernel) (by exact ev_ob_281) rfl rfl ?_
            intro r65 hr65
            have hr65 : r65 = 0 ∨ ev_isOb (r65 - 1) 5 = true := hr65
            refine ev_r_chk ?_
            intro c66
            refine ev_r_dr (r := r65) (fun v => [v, .int (Int32.ofInt x34)]) c66 ?_
            refine ev_r_virt (pc := 140) (y := 85) (mi := 60) (na := 0) (k := (r65 - 1)) (as := []) (rest := [.int (Int32.ofInt x34)]) (encc := ev_oI) (Q := ev_rng) (fun x S1 h => jt_60 d (by omega) Q ((r65 - 1)) (hr65.resolve_left c66) s39 x S1 h) (by exact (hr65.resolve_left c66)) (by decide +kernel) (by decide +kernel) (by decide +kernel) (by decide +kernel) rfl (by (try simp only [ev_sum, ev_nv_cat]); first | done | rfl) ?_
            intro x68 s67 hx68
            show ev_w _ _ _ _ _ [.int (Int32.ofInt x68), .int (Int32.ofInt x34)] _ _ _ _
            refine ev_r_icmp (pc := 143) (q := .ne) (o := 20) (t := 163) (c := x34 ≠ x68) (by decide +kernel) (ev_k_ne hx34 hx68) (by decide +kernel) ?_ ?_
            · intro c69
              exact hK163  s67 _ (by exact (ev_l1 (ev_l1 e30 (by decide) (by decide)) (by decide) (by decide))) (by exact (ev_l1 (ev_lk_st1 e31 (by decide) rfl) (by decide) (by decide))) (by exact (ev_lk_st1 ev_lk_st1_self (by decide) rfl)) (by exact ev_lk_st1_self)
            · intro c69
              refine ev_r_aload_n (pc := 146) (k := 0) (v := .ref 281) trivial (by decide +kernel) (by exact (ev_l1 (ev_l1 e30 (by decide) (by decide)) (by decide) (by decide))) ?_
              refine ev_r_getI (pc := 147) (y := 73) (ci := 8) (f := 4) (fin := 0) (by decide +kernel) (by decide +kernel) (by exact ev_ob_281) rfl ?_
              intro x70 hx70
              refine ev_r_if (pc := 150) (q := .ge) (o := 13) (t := 163) (c := 0 ≤ x70) (by decide +kernel) (ev_k_ge hx70 ev_rng0) (by decide +kernel) ?_ ?_
              · intro c71
                exact hK163  s67 _ (by exact (ev_l1 (ev_l1 e30 (by decide) (by decide)) (by decide) (by decide))) (by exact (ev_l1 (ev_lk_st1 e31 (by decide) rfl) (by decide) (by decide))) (by exact (ev_lk_st1 ev_lk_st1_self (by decide) rfl)) (by exact ev_lk_st1_self)
              · intro c71
                refine ev_r_aload_n (pc := 153) (k := 0) (v := .ref 281) trivial (by decide +kernel) (by exact (ev_l1 (ev_l1 e30 (by decide) (by decide)) (by decide) (by decide))) ?_
                refine ev_r_aload_n (pc := 154) (k := 0) (v := .ref 281) trivial (by decide +kernel) (by exact (ev_l1 (ev_l1 e30 (by decide) (by decide)) (by decide) (by decide))) ?_
                refine ev_r_getI (pc := 155) (y := 70) (ci := 8) (f := 3) (fin := 0) (by decide +kernel) (by decide +kernel) (by exact ev_ob_281) rfl ?_
                intro x72 hx72
                refine ev_r_putI (pc := 158) (y := 46) (ci := 8) (f := 12) hx72 (by decide +kernel) (by decide +kernel) (by exact ev_ob_281) rfl rfl ?_
                intro s73
                refine ev_r_iconst (pc := 161) (k := 1) (by decide +kernel) ?_
                exact ev_r_ireturn (pc := 162) (x := 1) (v := Int32.ofInt 1) (ty := .int) (by decide) (by decide +kernel) (by decide +kernel) rfl rfl
      · intro c41
        refine ev_r_iconst (pc := 126) (k := 2) (by decide +kernel) ?_
        exact ev_r_ireturn (pc := 127) (x := 2) (v := Int32.ofInt 2) (ty := .int) (by decide) (by decide +kernel) (by decide +kernel) rfl rfl
    · intro K98 hK98
      refine ev_r_if (pc := 81) (q := .ne) (o := 17) (t := 98) (c := x20 ≠ 0) (by decide +kernel) (ev_k_ne hx20 ev_rng0) (by decide +kernel) ?_ ?_
      · intro c74
        exact hK98  s26 _ (by exact e23) (by exact e25)
      · intro c74
        refine ev_r_aload_n (pc := 84) (k := 0) (v := .ref 281) trivial (by decide +kernel) (by exact e23) ?_
        refine ev_r_virt (pc := 85) (y := 100) (mi := 131) (na := 0) (k := 281) (as := []) (rest := []) (encc := ev_oI) (Q := ev_rng) (fun x S1 h => jt_131 d (by omega) Q   s26 x S1 h) (by exact ev_ob_281) (by decide +kernel) (by decide +kernel) (by decide +kernel) (by decide +kernel) rfl (by (try simp only [ev_sum, ev_nv_cat]); first | done | rfl) ?_
        intro x76 s75 hx76
        show ev_w _ _ _ _ _ [.int (Int32.ofInt x76)] _ _ _ _
        refine ev_r_istore (pc := 88) (k := 4) (by decide +kernel) (by decide +kernel) rfl ?_
        refine ev_r_iload (pc := 90) (k := 4) (v := Int32.ofInt x76) (by decide +kernel) (by exact ev_lk_st1_self) ?_
        refine ev_r_if (pc := 92) (q := .eq) (o := 6) (t := 98) (c := x76 = 0) (by decide +kernel) (ev_k_eq hx76 ev_rng0) (by decide +kernel) ?_ ?_
        · intro c77
          exact hK98  s75 _ (by exact (ev_l1 e23 (by decide) (by decide))) (by exact (ev_lk_st1 e25 (by decide) rfl))
        · intro c77
          refine ev_r_iload (pc := 95) (k := 4) (v := Int32.ofInt x76) (by decide +kernel) (by exact ev_lk_st1_self) ?_
          exact ev_r_ireturn (pc := 97) (x := x76) (v := Int32.ofInt x76) (ty := .int) hx76 (by decide +kernel) (by decide +kernel) rfl rfl
theorem jlt_122_74 (d : Nat) (hd : 5 ≤ d + 1) (Q : Nat)     : ∀ q : Nat, ∀ (x20 : Int) (hx20 : ev_rng x20), ∀ (x21 : Int) (hx21 : ev_rng x21), ∀ (s26 : ev_St) (w22 : List (Nat × Value)), ev_lk w22 0 = some (.ref 281) → ev_lk w22 2 = some (.int (Int32.ofInt x20)) → ev_lk w22 3 = some (.int (Int32.ofInt x21)) → ev_w none (ev_Mof 122) d 74 w22 [] s26 (jl_122_74 Q   q x20 x21 s26) ev_eI ev_rng := by
  intro q
  induction q with
  | zero =>
    intro x20 hx20 x21 hx21 s26 w22 e23 e24 e25
    exact ev_w_none
  | succ q ih => exact jbt_122_74 d hd Q     _ ih
/-- MendBench$Search.run(I)I -/
def jm_122 (Q : Nat) (a0 : Int) (S : ev_St) : Option ((Int) × ev_St) := ev_b (ev_pI S 281 11 a0) fun s1 => ev_b (ev_pI s1 281 3 a0) fun s2 => ev_b (ev_pI s2 281 4 ((-1))) fun s3 => ev_b (ev_pI s3 281 5 ((-1))) fun s4 => ev_b (ev_pI s4 281 7 0) fun s5 => ev_b (ev_pI s5 281 9 0) fun s6 => ev_b (s6.2.2.1 281 0) fun r7 => ev_b (s6.2.2.1 281 0) fun r8 => ev_if (r8 ≠ 0) (ev_bd (jm_60 Q ((r8 - 1)) s6) fun x11 s10 => ev_if (r7 ≠ 0) (ev_bd (jm_59 Q ((r7 - 1)) x11 s10) fun x14 s13 => ev_jn (fun (x15 : Int) (s18 : ev_St) => ev_b (ev_pI s18 281 2 x15) fun s19 => jl_122_74 Q   Q 1 0 s19) fun K67 => if x14 = 0 then (K67 ((-1)) s13) else (ev_b (s13.2.2.1 281 0) fun r79 => ev_if (r79 ≠ 0) (ev_b (s13.2.2.1 281 0) fun r81 => ev_if (r81 ≠ 0) (ev_bd (jm_60 Q ((r81 - 1)) s13) fun x84 s83 => ev_if ((0 : Int) ≤ x84 ∧ x84 < (ev_aln (((r79 - 1) + 6)) : Int)) (ev_b (s83.1 (((r79 - 1) + 6)) (Int.toNat x84)) fun x85 => K67 x85 s83))))))
theorem jt_122 (d : Nat) (hd : 5 ≤ d) (Q : Nat) (a0 : Int) (ha0 : ev_rng a0) (S : ev_St) (x : Int) (S' : ev_St) (hJ : jm_122 Q a0 S = some (x, S')) : ev_Ref d 122 [.ref 281, .int (Int32.ofInt a0)] S (ev_eI x) S' (ev_rng x) := by
  obtain ⟨d, rfl⟩ : ∃ e, d = e + 1 := ⟨d - 1, by omega⟩
  refine ev_ref_of (P := ev_rng) (lv := [(0, .ref 281), (1, .int (Int32.ofInt a0))]) (by decide +kernel) (by (try simp only [ev_sum, ev_nv_cat]); first | done | rfl) (by (try simp only [lv_args, ev_nv_cat]); first | done | rfl) ?_ x S' hJ
  unfold jm_122
  refine ev_r_aload_n (pc := 0) (k := 0) (v := .ref 281) trivial (by decide +kernel) (by rfl) ?_
  refine ev_r_iload_n (pc := 1) (k := 1) (v := Int32.ofInt a0) (by decide +kernel) (by rfl) ?_
  refine ev_r_putI (pc := 2) (y := 43) (ci := 8) (f := 11) ha0 (by decide +kernel) (by decide +kernel) (by exact ev_ob_281) rfl rfl ?_
  intro s1
  refine ev_r_aload_n (pc := 5) (k := 0) (v := .ref 281) trivial (by decide +kernel) (by rfl) ?_
  refine ev_r_iload_n (pc := 6) (k := 1) (v := Int32.ofInt a0) (by decide +kernel) (by rfl) ?_
  refine ev_r_putI (pc := 7) (y := 70) (ci := 8) (f := 3) ha0 (by decide +kernel) (by decide +kernel) (by exact ev_ob_281) rfl rfl ?_
  intro s2
  refine ev_r_aload_n (pc := 10) (k := 0) (v := .ref 281) trivial (by decide +kernel) (by rfl) ?_
  refine ev_r_iconst (pc := 11) (k := -1) (by decide +kernel) ?_
  refine ev_r_putI (pc := 12) (y := 73) (ci := 8) (f := 4) (by decide) (by decide +kernel) (by decide +kernel) (by exact ev_ob_281) rfl rfl ?_
  intro s3
  refine ev_r_aload_n (pc := 15) (k := 0) (v := .ref 281) trivial (by decide +kernel) (by rfl) ?_
  refine ev_r_iconst (pc := 16) (k := -1) (by decide +kernel) ?_
  refine ev_r_putI (pc := 17) (y := 76) (ci := 8) (f := 5) (by decide) (by decide +kernel) (by decide +kernel) (by exact ev_ob_281) rfl rfl ?_
  intro s4
  refine ev_r_aload_n (pc := 20) (k := 0) (v := .ref 281) trivial (by decide +kernel) (by rfl) ?_
  refine ev_r_iconst (pc := 21) (k := 0) (by decide +kernel) ?_
  refine ev_r_putI (pc := 22) (y := 79) (ci := 8) (f := 7) (by decide) (by decide +kernel) (by decide +kernel) (by exact ev_ob_281) rfl rfl ?_
  intro s5
  refine ev_r_aload_n (pc := 25) (k := 0) (v := .ref 281) trivial (by decide +kernel) (by rfl) ?_
  refine ev_r_iconst (pc := 26) (k := 0) (by decide +kernel) ?_
  refine ev_r_putI (pc := 27) (y := 82) (ci := 8) (f := 9) (by decide) (by decide +kernel) (by decide +kernel) (by exact ev_ob_281) rfl rfl ?_
  intro s6
  refine ev_r_aload_n (pc := 30) (k := 0) (v := .ref 281) trivial (by decide +kernel) (by rfl) ?_
  refine ev_r_aload_n (pc := 31) (k := 0) (v := .ref 281) trivial (by decide +kernel) (by rfl) ?_
  refine ev_r_getR (pc := 32) (y := 58) (ci := 8) (f := 0) (fin := 0) (t := 5) (by decide +kernel) (by decide +kernel) (by exact ev_ob_281) rfl rfl ?_
  intro r7 hr7
  have hr7 : r7 = 0 ∨ ev_isOb (r7 - 1) 5 = true := hr7
  refine ev_r_aload_n (pc := 35) (k := 0) (v := .ref 281) trivial (by decide +kernel) (by rfl) ?_
  refine ev_r_getR (pc := 36) (y := 58) (ci := 8) (f := 0) (fin := 0) (t := 5) (by decide +kernel) (by decide +kernel) (by exact ev_ob_281) rfl rfl ?_
  intro r8 hr8
  have hr8 : r8 = 0 ∨ ev_isOb (r8 - 1) 5 = true := hr8
  refine ev_r_chk ?_
  intro c9
  refine ev_r_dr (r := r8) (fun v => [v, ev_nv r7, .ref 281]) c9 ?_
  refine ev_r_virt (pc := 39) (y := 85) (mi := 60) (na := 0) (k := (r8 - 1)) (as := []) (rest := [ev_nv r7, .ref 281]) (encc := ev_oI) (Q := ev_rng) (fun x S1 h => jt_60 d (by omega) Q ((r8 - 1)) (hr8.resolve_left c9) s6 x S1 h) (by exact (hr8.resolve_left c9)) (by decide +kernel) (by decide +kernel) (by decide +kernel) (by decide +kernel) rfl (by (try simp only [ev_sum, ev_nv_cat]); first | done | rfl) ?_
  intro x11 s10 hx11
  show ev_w _ _ _ _ _ [.int (Int32.ofInt x11), ev_nv r7, .ref 281] _ _ _ _
  refine ev_r_chk ?_
  intro c12
  refine ev_r_dr (r := r7) (fun v => [.int (Int32.ofInt x11), v, .ref 281]) c12 ?_
  refine ev_r_virt (pc := 42) (y := 89) (mi := 59) (na := 1) (k := (r7 - 1)) (as := [.int (Int32.ofInt x11)]) (rest := [.ref 281]) (encc := ev_oI) (Q := ev_bl) (fun x S1 h => jt_59 d (by omega) Q ((r7 - 1)) x11 (hr7.resolve_left c12) hx11 s10 x S1 h) (by exact (hr7.resolve_left c12)) (by decide +kernel) (by decide +kernel) (by decide +kernel) (by decide +kernel) rfl (by (try simp only [ev_sum, ev_nv_cat]); first | done | rfl) ?_
  intro x14 s13 hx14
  replace hx14 := ev_bl_rng hx14
  show ev_w _ _ _ _ _ [.int (Int32.ofInt x14), .ref 281] _ _ _ _
  refine ev_r_jn (Q := fun K => ∀ (x15 : Int) (hx15 : ev_rng x15), ∀ (s18 : ev_St) (w16 : List (Nat × Value)), ev_lk w16 0 = some (.ref 281) → ev_w none (ev_Mof 122) d 67 w16 [.int (Int32.ofInt x15), .ref 281] s18 (K x15 s18) ev_eI ev_rng) ?_ ?_
  · intro x15 hx15 s18 w16 e17
    refine ev_r_putI (pc := 67) (y := 96) (ci := 8) (f := 2) hx15 (by decide +kernel) (by decide +kernel) (by exact ev_ob_281) rfl rfl ?_
    intro s19
    refine ev_r_iconst (pc := 70) (k := 1) (by decide +kernel) ?_
    refine ev_r_istore_n (pc := 71) (k := 2) (by decide +kernel) (by decide +kernel) rfl ?_
    refine ev_r_iconst (pc := 72) (k := 0) (by decide +kernel) ?_
    refine ev_r_istore_n (pc := 73) (k := 3) (by decide +kernel) (by decide +kernel) rfl ?_
    exact jlt_122_74 d hd Q     Q 1 (by decide) 0 (by decide) s19 _ (by exact (ev_l1 (ev_l1 e17 (by decide) (by decide)) (by decide) (by decide))) (by exact (ev_lk_st1 ev_lk_st1_self (by decide) rfl)) (by exact ev_lk_st1_self)
  · intro K67 hK67
    refine ev_r_if (pc := 45) (q := .eq) (o := 21) (t := 66) (c := x14 = 0) (by decide +kernel) (ev_k_eq hx14 ev_rng0) (by decide +kernel) ?_ ?_
    · intro c78
      refine ev_r_iconst (pc := 66) (k := -1) (by decide +kernel) ?_
      exact hK67 ((-1)) (by decide) s13 _ (by rfl)
    · intro c78
      refine ev_r_aload_n (pc := 48) (k := 0) (v := .ref 281) trivial (by decide +kernel) (by rfl) ?_
      refine ev_r_getR (pc := 49) (y := 58) (ci := 8) (f := 0) (fin := 0) (t := 5) (by decide +kernel) (by decide +kernel) (by exact ev_ob_281) rfl rfl ?_
      intro r79 hr79
      have hr79 : r79 = 0 ∨ ev_isOb (r79 - 1) 5 = true := hr79
      refine ev_r_chk ?_
      intro c80
      refine ev_r_dr (r := r79) (fun v => [v, .ref 281]) c80 ?_
      refine ev_r_getC (pc := 52) (y := 93) (ci := 5) (f := 5) (fin := 2) (k' := ((r79 - 1) + 6)) (by decide +kernel) (by decide +kernel) (by exact (hr79.resolve_left c80)) rfl rfl ?_
      refine ev_r_aload_n (pc := 55) (k := 0) (v := .ref 281) trivial (by decide +kernel) (by rfl) ?_
      refine ev_r_getR (pc := 56) (y := 58) (ci := 8) (f := 0) (fin := 0) (t := 5) (by decide +kernel) (by decide +kernel) (by exact ev_ob_281) rfl rfl ?_
      intro r81 hr81
      have hr81 : r81 = 0 ∨ ev_isOb (r81 - 1) 5 = true := hr81
      refine ev_r_chk ?_
      intro c82
      refine ev_r_dr (r := r81) (fun v => [v, .ref (((r79 - 1) + 6)), .ref 281]) c82 ?_
      refine ev_r_virt (pc := 59) (y := 85) (mi := 60) (na := 0) (k := (r81 - 1)) (as := []) (rest := [.ref (((r79 - 1) + 6)), .ref 281]) (encc := ev_oI) (Q := ev_rng) (fun x S1 h => jt_60 d (by omega) Q ((r81 - 1)) (hr81.resolve_left c82) s13 x S1 h) (by exact (hr81.resolve_left c82)) (by decide +kernel) (by decide +kernel) (by decide +kernel) (by decide +kernel) rfl (by (try simp only [ev_sum, ev_nv_cat]); first | done | rfl) ?_
      intro x84 s83 hx84
      show ev_w _ _ _ _ _ [.int (Int32.ofInt x84), .ref (((r79 - 1) + 6)), .ref 281] _ _ _ _
      refine ev_r_iald (pc := 62) hx84 (by decide +kernel) (by exact (ev_fo_5_5 (hr79.resolve_left c80))) ?_
      intro x85 hx85
      refine ev_r_goto (pc := 63) (o := 4) (t := 67) (by decide +kernel) (by decide +kernel) ?_
      exact hK67 x85 hx85 s83 _ (by rfl)
def jb_115_12 (Q : Nat)   (K12 : Int → Int → ev_St → Option ((Int) × ev_St)) (x2 : Int) (x3 : Int) (s8 : ev_St) : Option ((Int) × ev_St) := if 160 < x3 then (some ((-1), s8)) else (ev_b (s8.2.2.1 281 1) fun r10 => ev_if (r10 ≠ 0) (ev_b (s8.1 ((r10 - 1)) 1) fun x12 => if x12 < x2 then (some ((-1), s8)) else (ev_bd (jm_122 Q x2 s8) fun x15 s14 => ev_b (s14.1 281 10) fun x16 => if x16 = 0 then (if x15 ≠ 1 then (if x15 ≠ 3 then (ev_jn (fun (x20 : Int) (s24 : ev_St) => ev_ck (x3 + 1) fun x25 => K12 x20 x25 s24) fun K104 => ev_jn (fun  (s30 : ev_St) => ev_ck (x2 + 1) fun x31 => K104 x31 s30) fun K100 => if x15 ≠ 4 then (K100  s14) else (ev_b (s14.1 281 13) fun x33 => if x33 ≤ x2 then (K100  s14) else (ev_b (s14.1 281 13) fun x35 => K104 x35 s14))) else (some ((-1), s14))) else (ev_b (s14.1 281 11) fun x36 => ev_ck (1000 * x36) fun x37 => ev_b (s14.1 281 12) fun x38 => ev_ck (x37 + x38) fun x39 => some (x39, s14))) else (some ((-2), s14)))))
def jl_115_12 (Q : Nat)   : Nat → Int → Int → ev_St → Option ((Int) × ev_St)
  | 0 => fun _ _ _ => none
  | q + 1 => jb_115_12 Q   (jl_115_12 Q   q)
theorem jbt_115_12 (d : Nat) (hd : 6 ≤ d + 1) (Q : Nat)     (K12 : Int → Int → ev_St → Option ((Int) × ev_St)) (hK12 : ∀ (x2 : Int) (hx2 : ev_rng x2), ∀ (x3 : Int) (hx3 : ev_rng x3), ∀ (s8 : ev_St) (w4 : List (Nat × Value)), ev_lk w4 0 = some (.ref 281) → ev_lk w4 4 = some (.int (Int32.ofInt x2)) → ev_lk w4 5 = some (.int (Int32.ofInt x3)) → ev_w none (ev_Mof 115) d 12 w4 [] s8 (K12 x2 x3 s8) ev_eI ev_rng) : ∀ (x2 : Int) (hx2 : ev_rng x2), ∀ (x3 : Int) (hx3 : ev_rng x3), ∀ (s8 : ev_St) (w4 : List (Nat × Value)), ev_lk w4 0 = some (.ref 281) → ev_lk w4 4 = some (.int (Int32.ofInt x2)) → ev_lk w4 5 = some (.int (Int32.ofInt x3)) → ev_w none (ev_Mof 115) d 12 w4 [] s8 (jb_115_12 Q   K12 x2 x3 s8) ev_eI ev_rng := by
  intro x2 hx2 x3 hx3 s8 w4 e5 e6 e7
  unfold jb_115_12
  refine ev_r_iload (pc := 12) (k := 5) (v := Int32.ofInt x3) (by decide +kernel) (by exact e7) ?_
  refine ev_r_sipush (pc := 14) (k := 160) (by decide +kernel) (by decide +kernel) ?_
  refine ev_r_icmp (pc := 17) (q := .gt) (o := 95) (t := 112) (c := 160 < x3) (by decide +kernel) (ev_k_gt hx3 (by decide)) (by decide +kernel) ?_ ?_
  · intro c9
    refine ev_r_iconst (pc := 112) (k := -1) (by decide +kernel) ?_
    exact ev_r_ireturn (pc := 113) (x := (-1)) (v := Int32.ofInt ((-1))) (ty := .int) (by decide) (by decide +kernel) (by decide +kernel) rfl rfl
  · intro c9
    refine ev_r_iload (pc := 20) (k := 4) (v := Int32.ofInt x2) (by decide +kernel) (by exact e6) ?_
    refine ev_r_aload_n (pc := 22) (k := 0) (v := .ref 281) trivial (by decide +kernel) (by exact e5) ?_
    refine ev_r_getR (pc := 23) (y := 27) (ci := 8) (f := 1) (fin := 0) (t := 10) (by decide +kernel) (by decide +kernel) (by exact ev_ob_281) rfl rfl ?_
    intro r10 hr10
    have hr10 : r10 = 0 ∨ ev_isOb (r10 - 1) 10 = true := hr10
    refine ev_r_chk ?_
    intro c11
    refine ev_r_dr (r := r10) (fun v => [v, .int (Int32.ofInt x2)]) c11 ?_
    refine ev_r_getI (pc := 26) (y := 31) (ci := 10) (f := 1) (fin := 0) (by decide +kernel) (by decide +kernel) (by exact (hr10.resolve_left c11)) rfl ?_
    intro x12 hx12
    refine ev_r_icmp (pc := 29) (q := .gt) (o := 83) (t := 112) (c := x12 < x2) (by decide +kernel) (ev_k_gt hx2 hx12) (by decide +kernel) ?_ ?_
    · intro c13
      refine ev_r_iconst (pc := 112) (k := -1) (by decide +kernel) ?_
      exact ev_r_ireturn (pc := 113) (x := (-1)) (v := Int32.ofInt ((-1))) (ty := .int) (by decide) (by decide +kernel) (by decide +kernel) rfl rfl
    · intro c13
      refine ev_r_aload_n (pc := 32) (k := 0) (v := .ref 281) trivial (by decide +kernel) (by exact e5) ?_
      refine ev_r_iload (pc := 33) (k := 4) (v := Int32.ofInt x2) (by decide +kernel) (by exact e6) ?_
      refine ev_r_virt (pc := 35) (y := 35) (mi := 122) (na := 1) (k := 281) (as := [.int (Int32.ofInt x2)]) (rest := []) (encc := ev_oI) (Q := ev_rng) (fun x S1 h => jt_122 d (by omega) Q x2 hx2 s8 x S1 h) (by exact ev_ob_281) (by decide +kernel) (by decide +kernel) (by decide +kernel) (by decide +kernel) rfl (by (try simp only [ev_sum, ev_nv_cat]); first | done | rfl) ?_
      intro x15 s14 hx15
      show ev_w _ _ _ _ _ [.int (Int32.ofInt x15)] _ _ _ _
      refine ev_r_istore (pc := 38) (k := 6) (by decide +kernel) (by decide +kernel) rfl ?_
      refine ev_r_aload_n (pc := 40) (k := 0) (v := .ref 281) trivial (by decide +kernel) (by exact (ev_l1 e5 (by decide) (by decide))) ?_
      refine ev_r_getI (pc := 41) (y := 39) (ci := 8) (f := 10) (fin := 0) (by decide +kernel) (by decide +kernel) (by exact ev_ob_281) rfl ?_
      intro x16 hx16
      refine ev_r_if (pc := 44) (q := .eq) (o := 6) (t := 50) (c := x16 = 0) (by decide +kernel) (ev_k_eq hx16 ev_rng0) (by decide +kernel) ?_ ?_
      · intro c17
        refine ev_r_iload (pc := 50) (k := 6) (v := Int32.ofInt x15) (by decide +kernel) (by exact ev_lk_st1_self) ?_
        refine ev_r_iconst (pc := 52) (k := 1) (by decide +kernel) ?_
        refine ev_r_icmp (pc := 53) (q := .ne) (o := 17) (t := 70) (c := x15 ≠ 1) (by decide +kernel) (ev_k_ne hx15 (by decide)) (by decide +kernel) ?_ ?_
        · intro c18
          refine ev_r_iload (pc := 70) (k := 6) (v := Int32.ofInt x15) (by decide +kernel) (by exact ev_lk_st1_self) ?_
          refine ev_r_iconst (pc := 72) (k := 3) (by decide +kernel) ?_
          refine ev_r_icmp (pc := 73) (q := .ne) (o := 5) (t := 78) (c := x15 ≠ 3) (by decide +kernel) (ev_k_ne hx15 (by decide)) (by decide +kernel) ?_ ?_
          · intro c19
            refine ev_r_iload (pc := 78) (k := 6) (v := Int32.ofInt x15) (by decide +kernel) (by exact ev_lk_st1_self) ?_
            refine ev_r_iconst (pc := 80) (k := 4) (by decide +kernel) ?_
            refine ev_r_jn (Q := fun K => ∀ (x20 : Int) (hx20 : ev_rng x20), ∀ (s24 : ev_St) (w21 : List (Nat × Value)), ev_lk w21 0 = some (.ref 281) → ev_lk w21 5 = some (.int (Int32.ofInt x3)) → ev_w none (ev_Mof 115) d 104 w21 [.int (Int32.ofInt x20)] s24 (K x20 s24) ev_eI ev_rng) ?_ ?_
            · intro x20 hx20 s24 w21 e22 e23
              refine ev_r_istore (pc := 104) (k := 4) (by decide +kernel) (by decide +kernel) rfl ?_
              refine ev_r_iinc (pc := 106) (k := 5) (c := 1) (x := x3) (by decide +kernel) (by decide +kernel) (by exact (ev_l1 e23 (by decide) (by decide))) (fun _ => rfl) ?_
              intro x25 hx25
              refine ev_r_goto (pc := 109) (o := (-97)) (t := 12) (by decide +kernel) (by decide +kernel) ?_
              exact hK12 x20 hx20 x25 hx25 s24 _ (by exact (ev_l1 (ev_l1 e22 (by decide) (by decide)) (by decide) (by decide))) (by exact (ev_lk_st1 ev_lk_st1_self (by decide) rfl)) (by exact ev_lk_st1_self)
            · intro K104 hK104
              refine ev_r_jn (Q := fun K => ∀ (s30 : ev_St) (w26 : List (Nat × Value)), ev_lk w26 0 = some (.ref 281) → ev_lk w26 4 = some (.int (Int32.ofInt x2)) → ev_lk w26 5 = some (.int (Int32.ofInt x3)) → ev_w none (ev_Mof 115) d 100 w26 [] s30 (K  s30) ev_eI ev_rng) ?_ ?_
              · intro  s30 w26 e27 e28 e29
                refine ev_r_iload (pc := 100) (k := 4) (v := Int32.ofInt x2) (by decide +kernel) (by exact e28) ?_
                refine ev_r_iconst (pc := 102) (k := 1) (by decide +kernel) ?_
                refine ev_r_iadd (pc := 103) (by decide +kernel) ?_
                intro x31 hx31
                exact hK104 x31 hx31 s30 _ (by exact e27) (by exact e29)
              · intro K100 hK100
                refine ev_r_icmp (pc := 81) (q := .ne) (o := 19) (t := 100) (c := x15 ≠ 4) (by decide +kernel) (ev_k_ne hx15 (by decide)) (by decide +kernel) ?_ ?_
                · intro c32
                  exact hK100  s14 _ (by exact (ev_l1 e5 (by decide) (by decide))) (by exact (ev_l1 e6 (by decide) (by decide))) (by exact (ev_lk_st1 e7 (by decide) rfl))
                · intro c32
                  refine ev_r_aload_n (pc := 84) (k := 0) (v := .ref 281) trivial (by decide +kernel) (by exact (ev_l1 e5 (by decide) (by decide))) ?_
                  refine ev_r_getI (pc := 85) (y := 49) (ci := 8) (f := 13) (fin := 0) (by decide +kernel) (by decide +kernel) (by exact ev_ob_281) rfl ?_
                  intro x33 hx33
                  refine ev_r_iload (pc := 88) (k := 4) (v := Int32.ofInt x2) (by decide +kernel) (by exact (ev_l1 e6 (by decide) (by decide))) ?_
                  refine ev_r_icmp (pc := 90) (q := .le) (o := 10) (t := 100) (c := x33 ≤ x2) (by decide +kernel) (ev_k_le hx33 hx2) (by decide +kernel) ?_ ?_
                  · intro c34
                    exact hK100  s14 _ (by exact (ev_l1 e5 (by decide) (by decide))) (by exact (ev_l1 e6 (by decide) (by decide))) (by exact (ev_lk_st1 e7 (by decide) rfl))
                  · intro c34
                    refine ev_r_aload_n (pc := 93) (k := 0) (v := .ref 281) trivial (by decide +kernel) (by exact (ev_l1 e5 (by decide) (by decide))) ?_
                    refine ev_r_getI (pc := 94) (y := 49) (ci := 8) (f := 13) (fin := 0) (by decide +kernel) (by decide +kernel) (by exact ev_ob_281) rfl ?_
                    intro x35 hx35
                    refine ev_r_goto (pc := 97) (o := 7) (t := 104) (by decide +kernel) (by decide +kernel) ?_
                    exact hK104 x35 hx35 s14 _ (by exact (ev_l1 e5 (by decide) (by decide))) (by exact (ev_lk_st1 e7 (by decide) rfl))
          · intro c19
            refine ev_r_iconst (pc := 76) (k := -1) (by decide +kernel) ?_
            exact ev_r_ireturn (pc := 77) (x := (-1)) (v := Int32.ofInt ((-1))) (ty := .int) (by decide) (by decide +kernel) (by decide +kernel) rfl rfl
        · intro c18
          refine ev_r_sipush (pc := 56) (k := 1000) (by decide +kernel) (by decide +kernel) ?_
          refine ev_r_aload_n (pc := 59) (k := 0) (v := .ref 281) trivial (by decide +kernel) (by exact (ev_l1 e5 (by decide) (by decide))) ?_
          refine ev_r_getI (pc := 60) (y := 43) (ci := 8) (f := 11) (fin := 0) (by decide +kernel) (by decide +kernel) (by exact ev_ob_281) rfl ?_
          intro x36 hx36
          refine ev_r_imul (pc := 63) (by decide +kernel) ?_
          intro x37 hx37
          refine ev_r_aload_n (pc := 64) (k := 0) (v := .ref 281) trivial (by decide +kernel) (by exact (ev_l1 e5 (by decide) (by decide))) ?_
          refine ev_r_getI (pc := 65) (y := 46) (ci := 8) (f := 12) (fin := 0) (by decide +kernel) (by decide +kernel) (by exact ev_ob_281) rfl ?_
          intro x38 hx38
          refine ev_r_iadd (pc := 68) (by decide +kernel) ?_
          intro x39 hx39
          exact ev_r_ireturn (pc := 69) (x := x39) (v := Int32.ofInt x39) (ty := .int) hx39 (by decide +kernel) (by decide +kernel) rfl rfl
      · intro c17
        refine ev_r_bipush (pc := 47) (k := -2) (by decide +kernel) (by decide +kernel) ?_
        exact ev_r_ireturn (pc := 49) (x := (-2)) (v := Int32.ofInt ((-2))) (ty := .int) (by decide) (by decide +kernel) (by decide +kernel) rfl rfl
theorem jlt_115_12 (d : Nat) (hd : 6 ≤ d + 1) (Q : Nat)     : ∀ q : Nat, ∀ (x2 : Int) (hx2 : ev_rng x2), ∀ (x3 : Int) (hx3 : ev_rng x3), ∀ (s8 : ev_St) (w4 : List (Nat × Value)), ev_lk w4 0 = some (.ref 281) → ev_lk w4 4 = some (.int (Int32.ofInt x2)) → ev_lk w4 5 = some (.int (Int32.ofInt x3)) → ev_w none (ev_Mof 115) d 12 w4 [] s8 (jl_115_12 Q   q x2 x3 s8) ev_eI ev_rng := by
  intro q
  induction q with
  | zero =>
    intro x2 hx2 x3 hx3 s8 w4 e5 e6 e7
    exact ev_w_none
  | succ q ih => exact jbt_115_12 d hd Q     _ ih
/-- MendBench$Search.ahead(LMendBench$Pattern;LMendBench$Text;I)I -/
def jm_115 (Q : Nat) (a0 : Nat) (a1 : Nat) (a2 : Int) (S : ev_St) : Option ((Int) × ev_St) := ev_bd (jm_121 Q a0 a1 S) fun _ s1 => jl_115_12 Q   Q a2 0 s1
theorem jt_115 (d : Nat) (hd : 6 ≤ d) (Q : Nat) (a0 : Nat) (a1 : Nat) (a2 : Int) (ha0 : a0 = 0 ∨ ev_isOb (a0 - 1) 5 = true) (ha1 : a1 = 0 ∨ ev_isOb (a1 - 1) 10 = true) (ha2 : ev_rng a2) (S : ev_St) (x : Int) (S' : ev_St) (hJ : jm_115 Q a0 a1 a2 S = some (x, S')) : ev_Ref d 115 [.ref 281, ev_nv a0, ev_nv a1, .int (Int32.ofInt a2)] S (ev_eI x) S' (ev_rng x) := by
  obtain ⟨d, rfl⟩ : ∃ e, d = e + 1 := ⟨d - 1, by omega⟩
  refine ev_ref_of (P := ev_rng) (lv := [(0, .ref 281), (1, ev_nv a0), (2, ev_nv a1), (3, .int (Int32.ofInt a2))]) (by decide +kernel) (by (try simp only [ev_sum, ev_nv_cat]); first | done | rfl) (by (try simp only [lv_args, ev_nv_cat]); first | done | rfl) ?_ x S' hJ
  unfold jm_115
  refine ev_r_aload_n (pc := 0) (k := 0) (v := .ref 281) trivial (by decide +kernel) (by rfl) ?_
  refine ev_r_aload_n (pc := 1) (k := 1) (v := ev_nv a0) (ev_isR_nv _) (by decide +kernel) (by rfl) ?_
  refine ev_r_aload_n (pc := 2) (k := 2) (v := ev_nv a1) (ev_isR_nv _) (by decide +kernel) (by rfl) ?_
  refine ev_r_virt (pc := 3) (y := 21) (mi := 121) (na := 2) (k := 281) (as := [ev_nv a0, ev_nv a1]) (rest := []) (encc := ev_oU) (Q := ev_PU) (fun x S1 h => jt_121 d (by omega) Q a0 a1 (by exact ha0) (by exact ha1) S x S1 h) (by exact ev_ob_281) (by decide +kernel) (by decide +kernel) (by decide +kernel) (by decide +kernel) rfl (by (try simp only [ev_sum, ev_nv_cat]); first | done | rfl) ?_
  intro _ s1 _
  show ev_w _ _ _ _ _ [] _ _ _ _
  refine ev_r_iload_n (pc := 6) (k := 3) (v := Int32.ofInt a2) (by decide +kernel) (by rfl) ?_
  refine ev_r_istore (pc := 7) (k := 4) (by decide +kernel) (by decide +kernel) rfl ?_
  refine ev_r_iconst (pc := 9) (k := 0) (by decide +kernel) ?_
  refine ev_r_istore (pc := 10) (k := 5) (by decide +kernel) (by decide +kernel) rfl ?_
  exact jlt_115_12 d hd Q     Q a2 ha2 0 (by decide) s1 _ (by exact (ev_l1 (ev_l1 (by rfl) (by decide) (by decide)) (by decide) (by decide))) (by exact (ev_lk_st1 ev_lk_st1_self (by decide) rfl)) (by exact ev_lk_st1_self)
/-- MendBench.isLower(I)Z -/
def jm_209 (Q : Nat) (a0 : Int) (S : ev_St) : Option ((Int) × ev_St) := if a0 < 97 then (some (0, S)) else (if 122 < a0 then (some (0, S)) else (some (1, S)))
theorem jt_209 (d : Nat) (hd : 1 ≤ d) (Q : Nat) (a0 : Int) (ha0 : ev_rng a0) (S : ev_St) (x : Int) (S' : ev_St) (hJ : jm_209 Q a0 S = some (x, S')) : ev_Ref d 209 [.int (Int32.ofInt a0)] S (ev_eI x) S' (ev_bl x) := by
  obtain ⟨d, rfl⟩ : ∃ e, d = e + 1 := ⟨d - 1, by omega⟩
  refine ev_ref_of (P := ev_bl) (lv := [(0, .int (Int32.ofInt a0))]) (by decide +kernel) (by (try simp only [ev_sum, ev_nv_cat]); first | done | rfl) (by (try simp only [lv_args, ev_nv_cat]); first | done | rfl) ?_ x S' hJ
  unfold jm_209
  refine ev_r_iload_n (pc := 0) (k := 0) (v := Int32.ofInt a0) (by decide +kernel) (by rfl) ?_
  refine ev_r_bipush (pc := 1) (k := 97) (by decide +kernel) (by decide +kernel) ?_
  refine ev_r_icmp (pc := 3) (q := .lt) (o := 13) (t := 16) (c := a0 < 97) (by decide +kernel) (ev_k_lt ha0 (by decide)) (by decide +kernel) ?_ ?_
  · intro c1
    refine ev_r_iconst (pc := 16) (k := 0) (by decide +kernel) ?_
    exact ev_r_ireturn (pc := 17) (x := 0) (v := Int32.ofInt 0) (ty := .boolean) (by decide : ev_bl 0) (by decide +kernel) (by decide +kernel) (ev_ret_bl (by decide : ev_bl 0)) rfl
  · intro c1
    refine ev_r_iload_n (pc := 6) (k := 0) (v := Int32.ofInt a0) (by decide +kernel) (by rfl) ?_
    refine ev_r_bipush (pc := 7) (k := 122) (by decide +kernel) (by decide +kernel) ?_
    refine ev_r_icmp (pc := 9) (q := .gt) (o := 7) (t := 16) (c := 122 < a0) (by decide +kernel) (ev_k_gt ha0 (by decide)) (by decide +kernel) ?_ ?_
    · intro c2
      refine ev_r_iconst (pc := 16) (k := 0) (by decide +kernel) ?_
      exact ev_r_ireturn (pc := 17) (x := 0) (v := Int32.ofInt 0) (ty := .boolean) (by decide : ev_bl 0) (by decide +kernel) (by decide +kernel) (ev_ret_bl (by decide : ev_bl 0)) rfl
    · intro c2
      refine ev_r_iconst (pc := 12) (k := 1) (by decide +kernel) ?_
      refine ev_r_goto (pc := 13) (o := 4) (t := 17) (by decide +kernel) (by decide +kernel) ?_
      exact ev_r_ireturn (pc := 17) (x := 1) (v := Int32.ofInt 1) (ty := .boolean) (by decide : ev_bl 1) (by decide +kernel) (by decide +kernel) (ev_ret_bl (by decide : ev_bl 1)) rfl
/-- MendBench.isDigit(I)Z -/
def jm_208 (Q : Nat) (a0 : Int) (S : ev_St) : Option ((Int) × ev_St) := if a0 < 48 then (some (0, S)) else (if 57 < a0 then (some (0, S)) else (some (1, S)))
theorem jt_208 (d : Nat) (hd : 1 ≤ d) (Q : Nat) (a0 : Int) (ha0 : ev_rng a0) (S : ev_St) (x : Int) (S' : ev_St) (hJ : jm_208 Q a0 S = some (x, S')) : ev_Ref d 208 [.int (Int32.ofInt a0)] S (ev_eI x) S' (ev_bl x) := by
  obtain ⟨d, rfl⟩ : ∃ e, d = e + 1 := ⟨d - 1, by omega⟩
  refine ev_ref_of (P := ev_bl) (lv := [(0, .int (Int32.ofInt a0))]) (by decide +kernel) (by (try simp only [ev_sum, ev_nv_cat]); first | done | rfl) (by (try simp only [lv_args, ev_nv_cat]); first | done | rfl) ?_ x S' hJ
  unfold jm_208
  refine ev_r_iload_n (pc := 0) (k := 0) (v := Int32.ofInt a0) (by decide +kernel) (by rfl) ?_
  refine ev_r_bipush (pc := 1) (k := 48) (by decide +kernel) (by decide +kernel) ?_
  refine ev_r_icmp (pc := 3) (q := .lt) (o := 13) (t := 16) (c := a0 < 48) (by decide +kernel) (ev_k_lt ha0 (by decide)) (by decide +kernel) ?_ ?_
  · intro c1
    refine ev_r_iconst (pc := 16) (k := 0) (by decide +kernel) ?_
    exact ev_r_ireturn (pc := 17) (x := 0) (v := Int32.ofInt 0) (ty := .boolean) (by decide : ev_bl 0) (by decide +kernel) (by decide +kernel) (ev_ret_bl (by decide : ev_bl 0)) rfl
  · intro c1
    refine ev_r_iload_n (pc := 6) (k := 0) (v := Int32.ofInt a0) (by decide +kernel) (by rfl) ?_
    refine ev_r_bipush (pc := 7) (k := 57) (by decide +kernel) (by decide +kernel) ?_
    refine ev_r_icmp (pc := 9) (q := .gt) (o := 7) (t := 16) (c := 57 < a0) (by decide +kernel) (ev_k_gt ha0 (by decide)) (by decide +kernel) ?_ ?_
    · intro c2
      refine ev_r_iconst (pc := 16) (k := 0) (by decide +kernel) ?_
      exact ev_r_ireturn (pc := 17) (x := 0) (v := Int32.ofInt 0) (ty := .boolean) (by decide : ev_bl 0) (by decide +kernel) (by decide +kernel) (ev_ret_bl (by decide : ev_bl 0)) rfl
    · intro c2
      refine ev_r_iconst (pc := 12) (k := 1) (by decide +kernel) ?_
      refine ev_r_goto (pc := 13) (o := 4) (t := 17) (by decide +kernel) (by decide +kernel) ?_
      exact ev_r_ireturn (pc := 17) (x := 1) (v := Int32.ofInt 1) (ty := .boolean) (by decide : ev_bl 1) (by decide +kernel) (by decide +kernel) (ev_ret_bl (by decide : ev_bl 1)) rfl
/-- MendBench$Mender.lengthOf(LMendBench$Text;IZ)I -/
def jm_49 (Q : Nat) (a0 : Nat) (a1 : Int) (a2 : Int) (S : ev_St) : Option ((Int) × ev_St) := ev_if (a0 ≠ 0) (ev_bd (jm_151 Q ((a0 - 1)) a1 S) fun x3 s2 => ev_ck (a1 + 1) fun x4 => ev_if (a0 ≠ 0) (ev_bd (jm_151 Q ((a0 - 1)) x4 s2) fun x7 s6 => if x3 ≠ 92 then (if x3 ≠ 36 then (if x3 ≠ 63 then (some (1, s6)) else (if a2 ≠ 0 then (some (0, s6)) else (ev_bd (jm_208 Q x7 s6) fun x13 s12 => if x13 = 0 then (some (0, s12)) else (ev_ck (a1 + 2) fun x15 => ev_if (a0 ≠ 0) (ev_bd (jm_151 Q ((a0 - 1)) x15 s12) fun x18 s17 => if x18 ≠ 123 then (some (0, s17)) else (some (3, s17))))))) else (ev_jn (fun (x20 : Int) (s23 : ev_St) => ev_bd (jm_208 Q x7 s23) fun x25 s24 => if x25 = 0 then (if x20 = 0 then (some (0, s24)) else (some (4, s24))) else (some (2, s24))) fun K118 => ev_jn (fun  (s30 : ev_St) => K118 0 s30) fun K117 => if x7 ≠ 123 then (K117  s6) else (ev_ck (a1 + 2) fun x32 => ev_if (a0 ≠ 0) (ev_bd (jm_151 Q ((a0 - 1)) x32 s6) fun x35 s34 => ev_bd (jm_209 Q x35 s34) fun x37 s36 => if x37 = 0 then (K117  s36) else (ev_ck (a1 + 3) fun x39 => ev_if (a0 ≠ 0) (ev_bd (jm_151 Q ((a0 - 1)) x39 s36) fun x42 s41 => if x42 ≠ 125 then (K117  s41) else (K118 1 s41))))))) else (ev_jn (fun (x44 : Int) (s47 : ev_St) => if x44 ≠ 0 then (some (2, s47)) else (ev_bd (jm_211 Q x7 s47) fun x50 s49 => if x50 = 0 then (some (0, s49)) else (some (2, s49)))) fun K54 => ev_jn (fun  (s54 : ev_St) => K54 1 s54) fun K49 => if x7 = 85 then (K49  s6) else (if x7 = 76 then (K49  s6) else (if x7 = 69 then (K49  s6) else (if x7 ≠ 110 then (K54 0 s6) else (K49  s6)))))))
theorem jt_49 (d : Nat) (hd : 2 ≤ d) (Q : Nat) (a0 : Nat) (a1 : Int) (a2 : Int) (ha0 : a0 = 0 ∨ ev_isOb (a0 - 1) 10 = true) (ha1 : ev_rng a1) (ha2 : ev_rng a2) (S : ev_St) (x : Int) (S' : ev_St) (hJ : jm_49 Q a0 a1 a2 S = some (x, S')) : ev_Ref d 49 [ev_nv a0, .int (Int32.ofInt a1), .int (Int32.ofInt a2)] S (ev_eI x) S' (ev_rng x) := by
  obtain ⟨d, rfl⟩ : ∃ e, d = e + 1 := ⟨d - 1, by omega⟩
  refine ev_ref_of (P := ev_rng) (lv := [(0, ev_nv a0), (1, .int (Int32.ofInt a1)), (2, .int (Int32.ofInt a2))]) (by decide +kernel) (by (try simp only [ev_sum, ev_nv_cat]); first | done | rfl) (by (try simp only [lv_args, ev_nv_cat]); first | done | rfl) ?_ x S' hJ
  unfold jm_49
  refine ev_r_aload_n (pc := 0) (k := 0) (v := ev_nv a0) (ev_isR_nv _) (by decide +kernel) (by rfl) ?_
  refine ev_r_iload_n (pc := 1) (k := 1) (v := Int32.ofInt a1) (by decide +kernel) (by rfl) ?_
  refine ev_r_chk ?_
  intro c1
  refine ev_r_dr (r := a0) (fun v => [.int (Int32.ofInt a1), v]) c1 ?_
  refine ev_r_virt (pc := 2) (y := 109) (mi := 151) (na := 1) (k := (a0 - 1)) (as := [.int (Int32.ofInt a1)]) (rest := []) (encc := ev_oI) (Q := ev_rng) (fun x S1 h => jt_151 d (by omega) Q ((a0 - 1)) a1 (ha0.resolve_left c1) ha1 S x S1 h) (by exact (ha0.resolve_left c1)) (by decide +kernel) (by decide +kernel) (by decide +kernel) (by decide +kernel) rfl (by (try simp only [ev_sum, ev_nv_cat]); first | done | rfl) ?_
  intro x3 s2 hx3
  show ev_w _ _ _ _ _ [.int (Int32.ofInt x3)] _ _ _ _
  refine ev_r_istore_n (pc := 5) (k := 3) (by decide +kernel) (by decide +kernel) rfl ?_
  refine ev_r_aload_n (pc := 6) (k := 0) (v := ev_nv a0) (ev_isR_nv _) (by decide +kernel) (by exact (ev_l1 (by rfl) (by decide) (by decide))) ?_
  refine ev_r_iload_n (pc := 7) (k := 1) (v := Int32.ofInt a1) (by decide +kernel) (by exact (ev_l1 (by rfl) (by decide) (by decide))) ?_
  refine ev_r_iconst (pc := 8) (k := 1) (by decide +kernel) ?_
  refine ev_r_iadd (pc := 9) (by decide +kernel) ?_
  intro x4 hx4
  refine ev_r_chk ?_
  intro c5
  refine ev_r_dr (r := a0) (fun v => [.int (Int32.ofInt x4), v]) c5 ?_
  refine ev_r_virt (pc := 10) (y := 109) (mi := 151) (na := 1) (k := (a0 - 1)) (as := [.int (Int32.ofInt x4)]) (rest := []) (encc := ev_oI) (Q := ev_rng) (fun x S1 h => jt_151 d (by omega) Q ((a0 - 1)) x4 (ha0.resolve_left c5) hx4 s2 x S1 h) (by exact (ha0.resolve_left c5)) (by decide +kernel) (by decide +kernel) (by decide +kernel) (by decide +kernel) rfl (by (try simp only [ev_sum, ev_nv_cat]); first | done | rfl) ?_
  intro x7 s6 hx7
  show ev_w _ _ _ _ _ [.int (Int32.ofInt x7)] _ _ _ _
  refine ev_r_istore (pc := 13) (k := 4) (by decide +kernel) (by decide +kernel) rfl ?_
  refine ev_r_iload_n (pc := 15) (k := 3) (v := Int32.ofInt x3) (by decide +kernel) (by exact (ev_lk_st1 ev_lk_st1_self (by decide) rfl)) ?_
  refine ev_r_bipush (pc := 16) (k := 92) (by decide +kernel) (by decide +kernel) ?_
  refine ev_r_icmp (pc := 18) (q := .ne) (o := 57) (t := 75) (c := x3 ≠ 92) (by decide +kernel) (ev_k_ne hx3 (by decide)) (by decide +kernel) ?_ ?_
  · intro c8
    refine ev_r_iload_n (pc := 75) (k := 3) (v := Int32.ofInt x3) (by decide +kernel) (by exact (ev_lk_st1 ev_lk_st1_self (by decide) rfl)) ?_
    refine ev_r_bipush (pc := 76) (k := 36) (by decide +kernel) (by decide +kernel) ?_
    refine ev_r_icmp (pc := 78) (q := .ne) (o := 65) (t := 143) (c := x3 ≠ 36) (by decide +kernel) (ev_k_ne hx3 (by decide)) (by decide +kernel) ?_ ?_
    · intro c9
      refine ev_r_iload_n (pc := 143) (k := 3) (v := Int32.ofInt x3) (by decide +kernel) (by exact (ev_lk_st1 ev_lk_st1_self (by decide) rfl)) ?_
      refine ev_r_bipush (pc := 144) (k := 63) (by decide +kernel) (by decide +kernel) ?_
      refine ev_r_icmp (pc := 146) (q := .ne) (o := 33) (t := 179) (c := x3 ≠ 63) (by decide +kernel) (ev_k_ne hx3 (by decide)) (by decide +kernel) ?_ ?_
      · intro c10
        refine ev_r_iconst (pc := 179) (k := 1) (by decide +kernel) ?_
        exact ev_r_ireturn (pc := 180) (x := 1) (v := Int32.ofInt 1) (ty := .int) (by decide) (by decide +kernel) (by decide +kernel) rfl rfl
      · intro c10
        refine ev_r_iload_n (pc := 149) (k := 2) (v := Int32.ofInt a2) (by decide +kernel) (by exact (ev_l1 (ev_lk_st1 (by rfl) (by decide) rfl) (by decide) (by decide))) ?_
        refine ev_r_if (pc := 150) (q := .ne) (o := 27) (t := 177) (c := a2 ≠ 0) (by decide +kernel) (ev_k_ne ha2 ev_rng0) (by decide +kernel) ?_ ?_
        · intro c11
          refine ev_r_iconst (pc := 177) (k := 0) (by decide +kernel) ?_
          exact ev_r_ireturn (pc := 178) (x := 0) (v := Int32.ofInt 0) (ty := .int) (by decide) (by decide +kernel) (by decide +kernel) rfl rfl
        · intro c11
          refine ev_r_iload (pc := 153) (k := 4) (v := Int32.ofInt x7) (by decide +kernel) (by exact ev_lk_st1_self) ?_
          refine ev_r_stat (pc := 155) (y := 120) (kind := 5) (mi := 208) (na := 1) (as := [.int (Int32.ofInt x7)]) (rest := []) (encc := ev_oI) (Q := ev_bl) (fun x S1 h => jt_208 d (by omega) Q x7 hx7 s6 x S1 h) (Or.inr (Or.inl rfl)) (by decide +kernel) (by decide +kernel) (by decide +kernel) (by decide +kernel) rfl (by (try simp only [ev_sum, ev_nv_cat]); first | done | rfl) ?_
          intro x13 s12 hx13
          replace hx13 := ev_bl_rng hx13
          show ev_w _ _ _ _ _ [.int (Int32.ofInt x13)] _ _ _ _
          refine ev_r_if (pc := 158) (q := .eq) (o := 19) (t := 177) (c := x13 = 0) (by decide +kernel) (ev_k_eq hx13 ev_rng0) (by decide +kernel) ?_ ?_
          · intro c14
            refine ev_r_iconst (pc := 177) (k := 0) (by decide +kernel) ?_
            exact ev_r_ireturn (pc := 178) (x := 0) (v := Int32.ofInt 0) (ty := .int) (by decide) (by decide +kernel) (by decide +kernel) rfl rfl
          · intro c14
            refine ev_r_aload_n (pc := 161) (k := 0) (v := ev_nv a0) (ev_isR_nv _) (by decide +kernel) (by exact (ev_l1 (ev_l1 (by rfl) (by decide) (by decide)) (by decide) (by decide))) ?_
            refine ev_r_iload_n (pc := 162) (k := 1) (v := Int32.ofInt a1) (by decide +kernel) (by exact (ev_l1 (ev_l1 (by rfl) (by decide) (by decide)) (by decide) (by decide))) ?_
            refine ev_r_iconst (pc := 163) (k := 2) (by decide +kernel) ?_
            refine ev_r_iadd (pc := 164) (by decide +kernel) ?_
            intro x15 hx15
            refine ev_r_chk ?_
            intro c16
            refine ev_r_dr (r := a0) (fun v => [.int (Int32.ofInt x15), v]) c16 ?_
            refine ev_r_virt (pc := 165) (y := 109) (mi := 151) (na := 1) (k := (a0 - 1)) (as := [.int (Int32.ofInt x15)]) (rest := []) (encc := ev_oI) (Q := ev_rng) (fun x S1 h => jt_151 d (by omega) Q ((a0 - 1)) x15 (ha0.resolve_left c16) hx15 s12 x S1 h) (by exact (ha0.resolve_left c16)) (by decide +kernel) (by decide +kernel) (by decide +kernel) (by decide +kernel) rfl (by (try simp only [ev_sum, ev_nv_cat]); first | done | rfl) ?_
            intro x18 s17 hx18
            show ev_w _ _ _ _ _ [.int (Int32.ofInt x18)] _ _ _ _
            refine ev_r_bipush (pc := 168) (k := 123) (by decide +kernel) (by decide +kernel) ?_
            refine ev_r_icmp (pc := 170) (q := .ne) (o := 7) (t := 177) (c := x18 ≠ 123) (by decide +kernel) (ev_k_ne hx18 (by decide)) (by decide +kernel) ?_ ?_
            · intro c19
              refine ev_r_iconst (pc := 177) (k := 0) (by decide +kernel) ?_
              exact ev_r_ireturn (pc := 178) (x := 0) (v := Int32.ofInt 0) (ty := .int) (by decide) (by decide +kernel) (by decide +kernel) rfl rfl
            · intro c19
              refine ev_r_iconst (pc := 173) (k := 3) (by decide +kernel) ?_
              refine ev_r_goto (pc := 174) (o := 4) (t := 178) (by decide +kernel) (by decide +kernel) ?_
              exact ev_r_ireturn (pc := 178) (x := 3) (v := Int32.ofInt 3) (ty := .int) (by decide) (by decide +kernel) (by decide +kernel) rfl rfl
    · intro c9
      refine ev_r_iload (pc := 81) (k := 4) (v := Int32.ofInt x7) (by decide +kernel) (by exact ev_lk_st1_self) ?_
      refine ev_r_bipush (pc := 83) (k := 123) (by decide +kernel) (by decide +kernel) ?_
      refine ev_r_jn (Q := fun K => ∀ (x20 : Int) (hx20 : ev_rng x20), ∀ (s23 : ev_St) (w21 : List (Nat × Value)), ev_lk w21 4 = some (.int (Int32.ofInt x7)) → ev_w none (ev_Mof 49) d 118 w21 [.int (Int32.ofInt x20)] s23 (K x20 s23) ev_eI ev_rng) ?_ ?_
      · intro x20 hx20 s23 w21 e22
        refine ev_r_istore (pc := 118) (k := 5) (by decide +kernel) (by decide +kernel) rfl ?_
        refine ev_r_iload (pc := 120) (k := 4) (v := Int32.ofInt x7) (by decide +kernel) (by exact (ev_lk_st1 e22 (by decide) rfl)) ?_
        refine ev_r_stat (pc := 122) (y := 120) (kind := 5) (mi := 208) (na := 1) (as := [.int (Int32.ofInt x7)]) (rest := []) (encc := ev_oI) (Q := ev_bl) (fun x S1 h => jt_208 d (by omega) Q x7 hx7 s23 x S1 h) (Or.inr (Or.inl rfl)) (by decide +kernel) (by decide +kernel) (by decide +kernel) (by decide +kernel) rfl (by (try simp only [ev_sum, ev_nv_cat]); first | done | rfl) ?_
        intro x25 s24 hx25
        replace hx25 := ev_bl_rng hx25
        show ev_w _ _ _ _ _ [.int (Int32.ofInt x25)] _ _ _ _
        refine ev_r_if (pc := 125) (q := .eq) (o := 7) (t := 132) (c := x25 = 0) (by decide +kernel) (ev_k_eq hx25 ev_rng0) (by decide +kernel) ?_ ?_
        · intro c26
          refine ev_r_iload (pc := 132) (k := 5) (v := Int32.ofInt x20) (by decide +kernel) (by exact ev_lk_st1_self) ?_
          refine ev_r_if (pc := 134) (q := .eq) (o := 7) (t := 141) (c := x20 = 0) (by decide +kernel) (ev_k_eq hx20 ev_rng0) (by decide +kernel) ?_ ?_
          · intro c27
            refine ev_r_iconst (pc := 141) (k := 0) (by decide +kernel) ?_
            exact ev_r_ireturn (pc := 142) (x := 0) (v := Int32.ofInt 0) (ty := .int) (by decide) (by decide +kernel) (by decide +kernel) rfl rfl
          · intro c27
            refine ev_r_iconst (pc := 137) (k := 4) (by decide +kernel) ?_
            refine ev_r_goto (pc := 138) (o := 4) (t := 142) (by decide +kernel) (by decide +kernel) ?_
            exact ev_r_ireturn (pc := 142) (x := 4) (v := Int32.ofInt 4) (ty := .int) (by decide) (by decide +kernel) (by decide +kernel) rfl rfl
        · intro c26
          refine ev_r_iconst (pc := 128) (k := 2) (by decide +kernel) ?_
          refine ev_r_goto (pc := 129) (o := 13) (t := 142) (by decide +kernel) (by decide +kernel) ?_
          exact ev_r_ireturn (pc := 142) (x := 2) (v := Int32.ofInt 2) (ty := .int) (by decide) (by decide +kernel) (by decide +kernel) rfl rfl
      · intro K118 hK118
        refine ev_r_jn (Q := fun K => ∀ (s30 : ev_St) (w28 : List (Nat × Value)), ev_lk w28 4 = some (.int (Int32.ofInt x7)) → ev_w none (ev_Mof 49) d 117 w28 [] s30 (K  s30) ev_eI ev_rng) ?_ ?_
        · intro  s30 w28 e29
          refine ev_r_iconst (pc := 117) (k := 0) (by decide +kernel) ?_
          exact hK118 0 (by decide) s30 _ (by exact e29)
        · intro K117 hK117
          refine ev_r_icmp (pc := 85) (q := .ne) (o := 32) (t := 117) (c := x7 ≠ 123) (by decide +kernel) (ev_k_ne hx7 (by decide)) (by decide +kernel) ?_ ?_
          · intro c31
            exact hK117  s6 _ (by exact ev_lk_st1_self)
          · intro c31
            refine ev_r_aload_n (pc := 88) (k := 0) (v := ev_nv a0) (ev_isR_nv _) (by decide +kernel) (by exact (ev_l1 (ev_l1 (by rfl) (by decide) (by decide)) (by decide) (by decide))) ?_
            refine ev_r_iload_n (pc := 89) (k := 1) (v := Int32.ofInt a1) (by decide +kernel) (by exact (ev_l1 (ev_l1 (by rfl) (by decide) (by decide)) (by decide) (by decide))) ?_
            refine ev_r_iconst (pc := 90) (k := 2) (by decide +kernel) ?_
            refine ev_r_iadd (pc := 91) (by decide +kernel) ?_
            intro x32 hx32
            refine ev_r_chk ?_
            intro c33
            refine ev_r_dr (r := a0) (fun v => [.int (Int32.ofInt x32), v]) c33 ?_
            refine ev_r_virt (pc := 92) (y := 109) (mi := 151) (na := 1) (k := (a0 - 1)) (as := [.int (Int32.ofInt x32)]) (rest := []) (encc := ev_oI) (Q := ev_rng) (fun x S1 h => jt_151 d (by omega) Q ((a0 - 1)) x32 (ha0.resolve_left c33) hx32 s6 x S1 h) (by exact (ha0.resolve_left c33)) (by decide +kernel) (by decide +kernel) (by decide +kernel) (by decide +kernel) rfl (by (try simp only [ev_sum, ev_nv_cat]); first | done | rfl) ?_
            intro x35 s34 hx35
            show ev_w _ _ _ _ _ [.int (Int32.ofInt x35)] _ _ _ _
            refine ev_r_stat (pc := 95) (y := 117) (kind := 5) (mi := 209) (na := 1) (as := [.int (Int32.ofInt x35)]) (rest := []) (encc := ev_oI) (Q := ev_bl) (fun x S1 h => jt_209 d (by omega) Q x35 hx35 s34 x S1 h) (Or.inr (Or.inl rfl)) (by decide +kernel) (by decide +kernel) (by decide +kernel) (by decide +kernel) rfl (by (try simp only [ev_sum, ev_nv_cat]); first | done | rfl) ?_
            intro x37 s36 hx37
            replace hx37 := ev_bl_rng hx37
            show ev_w _ _ _ _ _ [.int (Int32.ofInt x37)] _ _ _ _
            refine ev_r_if (pc := 98) (q := .eq) (o := 19) (t := 117) (c := x37 = 0) (by decide +kernel) (ev_k_eq hx37 ev_rng0) (by decide +kernel) ?_ ?_
            · intro c38
              exact hK117  s36 _ (by exact ev_lk_st1_self)
            · intro c38
              refine ev_r_aload_n (pc := 101) (k := 0) (v := ev_nv a0) (ev_isR_nv _) (by decide +kernel) (by exact (ev_l1 (ev_l1 (by rfl) (by decide) (by decide)) (by decide) (by decide))) ?_
              refine ev_r_iload_n (pc := 102) (k := 1) (v := Int32.ofInt a1) (by decide +kernel) (by exact (ev_l1 (ev_l1 (by rfl) (by decide) (by decide)) (by decide) (by decide))) ?_
              refine ev_r_iconst (pc := 103) (k := 3) (by decide +kernel) ?_
              refine ev_r_iadd (pc := 104) (by decide +kernel) ?_
              intro x39 hx39
              refine ev_r_chk ?_
              intro c40
              refine ev_r_dr (r := a0) (fun v => [.int (Int32.ofInt x39), v]) c40 ?_
              refine ev_r_virt (pc := 105) (y := 109) (mi := 151) (na := 1) (k := (a0 - 1)) (as := [.int (Int32.ofInt x39)]) (rest := []) (encc := ev_oI) (Q := ev_rng) (fun x S1 h => jt_151 d (by omega) Q ((a0 - 1)) x39 (ha0.resolve_left c40) hx39 s36 x S1 h) (by exact (ha0.resolve_left c40)) (by decide +kernel) (by decide +kernel) (by decide +kernel) (by decide +kernel) rfl (by (try simp only [ev_sum, ev_nv_cat]); first | done | rfl) ?_
              intro x42 s41 hx42
              show ev_w _ _ _ _ _ [.int (Int32.ofInt x42)] _ _ _ _
              refine ev_r_bipush (pc := 108) (k := 125) (by decide +kernel) (by decide +kernel) ?_
              refine ev_r_icmp (pc := 110) (q := .ne) (o := 7) (t := 117) (c := x42 ≠ 125) (by decide +kernel) (ev_k_ne hx42 (by decide)) (by decide +kernel) ?_ ?_
              · intro c43
                exact hK117  s41 _ (by exact ev_lk_st1_self)
              · intro c43
                refine ev_r_iconst (pc := 113) (k := 1) (by decide +kernel) ?_
                refine ev_r_goto (pc := 114) (o := 4) (t := 118) (by decide +kernel) (by decide +kernel) ?_
                exact hK118 1 (by decide) s41 _ (by exact ev_lk_st1_self)
  · intro c8
    refine ev_r_iload (pc := 21) (k := 4) (v := Int32.ofInt x7) (by decide +kernel) (by exact ev_lk_st1_self) ?_
    refine ev_r_bipush (pc := 23) (k := 85) (by decide +kernel) (by decide +kernel) ?_
    refine ev_r_jn (Q := fun K => ∀ (x44 : Int) (hx44 : ev_rng x44), ∀ (s47 : ev_St) (w45 : List (Nat × Value)), ev_lk w45 4 = some (.int (Int32.ofInt x7)) → ev_w none (ev_Mof 49) d 54 w45 [.int (Int32.ofInt x44)] s47 (K x44 s47) ev_eI ev_rng) ?_ ?_
    · intro x44 hx44 s47 w45 e46
      refine ev_r_istore (pc := 54) (k := 5) (by decide +kernel) (by decide +kernel) rfl ?_
      refine ev_r_iload (pc := 56) (k := 5) (v := Int32.ofInt x44) (by decide +kernel) (by exact ev_lk_st1_self) ?_
      refine ev_r_if (pc := 58) (q := .ne) (o := 11) (t := 69) (c := x44 ≠ 0) (by decide +kernel) (ev_k_ne hx44 ev_rng0) (by decide +kernel) ?_ ?_
      · intro c48
        refine ev_r_iconst (pc := 69) (k := 2) (by decide +kernel) ?_
        refine ev_r_goto (pc := 70) (o := 4) (t := 74) (by decide +kernel) (by decide +kernel) ?_
        exact ev_r_ireturn (pc := 74) (x := 2) (v := Int32.ofInt 2) (ty := .int) (by decide) (by decide +kernel) (by decide +kernel) rfl rfl
      · intro c48
        refine ev_r_iload (pc := 61) (k := 4) (v := Int32.ofInt x7) (by decide +kernel) (by exact (ev_lk_st1 e46 (by decide) rfl)) ?_
        refine ev_r_stat (pc := 63) (y := 113) (kind := 5) (mi := 211) (na := 1) (as := [.int (Int32.ofInt x7)]) (rest := []) (encc := ev_oI) (Q := ev_bl) (fun x S1 h => jt_211 d (by omega) Q x7 hx7 s47 x S1 h) (Or.inr (Or.inl rfl)) (by decide +kernel) (by decide +kernel) (by decide +kernel) (by decide +kernel) rfl (by (try simp only [ev_sum, ev_nv_cat]); first | done | rfl) ?_
        intro x50 s49 hx50
        replace hx50 := ev_bl_rng hx50
        show ev_w _ _ _ _ _ [.int (Int32.ofInt x50)] _ _ _ _
        refine ev_r_if (pc := 66) (q := .eq) (o := 7) (t := 73) (c := x50 = 0) (by decide +kernel) (ev_k_eq hx50 ev_rng0) (by decide +kernel) ?_ ?_
        · intro c51
          refine ev_r_iconst (pc := 73) (k := 0) (by decide +kernel) ?_
          exact ev_r_ireturn (pc := 74) (x := 0) (v := Int32.ofInt 0) (ty := .int) (by decide) (by decide +kernel) (by decide +kernel) rfl rfl
        · intro c51
          refine ev_r_iconst (pc := 69) (k := 2) (by decide +kernel) ?_
          refine ev_r_goto (pc := 70) (o := 4) (t := 74) (by decide +kernel) (by decide +kernel) ?_
          exact ev_r_ireturn (pc := 74) (x := 2) (v := Int32.ofInt 2) (ty := .int) (by decide) (by decide +kernel) (by decide +kernel) rfl rfl
    · intro K54 hK54
      refine ev_r_jn (Q := fun K => ∀ (s54 : ev_St) (w52 : List (Nat × Value)), ev_lk w52 4 = some (.int (Int32.ofInt x7)) → ev_w none (ev_Mof 49) d 49 w52 [] s54 (K  s54) ev_eI ev_rng) ?_ ?_
      · intro  s54 w52 e53
        refine ev_r_iconst (pc := 49) (k := 1) (by decide +kernel) ?_
        refine ev_r_goto (pc := 50) (o := 4) (t := 54) (by decide +kernel) (by decide +kernel) ?_
        exact hK54 1 (by decide) s54 _ (by exact e53)
      · intro K49 hK49
        refine ev_r_icmp (pc := 25) (q := .eq) (o := 24) (t := 49) (c := x7 = 85) (by decide +kernel) (ev_k_eq hx7 (by decide)) (by decide +kernel) ?_ ?_
        · intro c55
          exact hK49  s6 _ (by exact ev_lk_st1_self)
        · intro c55
          refine ev_r_iload (pc := 28) (k := 4) (v := Int32.ofInt x7) (by decide +kernel) (by exact ev_lk_st1_self) ?_
          refine ev_r_bipush (pc := 30) (k := 76) (by decide +kernel) (by decide +kernel) ?_
          refine ev_r_icmp (pc := 32) (q := .eq) (o := 17) (t := 49) (c := x7 = 76) (by decide +kernel) (ev_k_eq hx7 (by decide)) (by decide +kernel) ?_ ?_
          · intro c56
            exact hK49  s6 _ (by exact ev_lk_st1_self)
          · intro c56
            refine ev_r_iload (pc := 35) (k := 4) (v := Int32.ofInt x7) (by decide +kernel) (by exact ev_lk_st1_self) ?_
            refine ev_r_bipush (pc := 37) (k := 69) (by decide +kernel) (by decide +kernel) ?_
            refine ev_r_icmp (pc := 39) (q := .eq) (o := 10) (t := 49) (c := x7 = 69) (by decide +kernel) (ev_k_eq hx7 (by decide)) (by decide +kernel) ?_ ?_
            · intro c57
              exact hK49  s6 _ (by exact ev_lk_st1_self)
            · intro c57
              refine ev_r_iload (pc := 42) (k := 4) (v := Int32.ofInt x7) (by decide +kernel) (by exact ev_lk_st1_self) ?_
              refine ev_r_bipush (pc := 44) (k := 110) (by decide +kernel) (by decide +kernel) ?_
              refine ev_r_icmp (pc := 46) (q := .ne) (o := 7) (t := 53) (c := x7 ≠ 110) (by decide +kernel) (ev_k_ne hx7 (by decide)) (by decide +kernel) ?_ ?_
              · intro c58
                refine ev_r_iconst (pc := 53) (k := 0) (by decide +kernel) ?_
                exact hK54 0 (by decide) s6 _ (by exact ev_lk_st1_self)
              · intro c58
                exact hK49  s6 _ (by exact ev_lk_st1_self)
/-- MendBench$Search.spanOf(I)I -/
def jm_118 (Q : Nat) (a0 : Int) (S : ev_St) : Option ((Int) × ev_St) := if a0 ≠ 0 then (ev_bd (jm_129 Q a0 S) fun x3 s2 => if 0 ≤ x3 then (ev_ck (x3 + 2) fun x5 => ev_if ((0 : Int) ≤ x5 ∧ x5 < (ev_aln 282 : Int)) (ev_b (s2.1 282 (Int.toNat x5)) fun x6 => ev_ck (1000 * x6) fun x7 => ev_ck (x3 + 3) fun x8 => ev_if ((0 : Int) ≤ x8 ∧ x8 < (ev_aln 282 : Int)) (ev_b (s2.1 282 (Int.toNat x8)) fun x9 => ev_ck (x7 + x9) fun x10 => some (x10, s2)))) else (some ((-3), s2))) else (ev_b (S.1 281 11) fun x11 => ev_ck (1000 * x11) fun x12 => ev_b (S.1 281 12) fun x13 => ev_ck (x12 + x13) fun x14 => some (x14, S))
theorem jt_118 (d : Nat) (hd : 3 ≤ d) (Q : Nat) (a0 : Int) (ha0 : ev_rng a0) (S : ev_St) (x : Int) (S' : ev_St) (hJ : jm_118 Q a0 S = some (x, S')) : ev_Ref d 118 [.ref 281, .int (Int32.ofInt a0)] S (ev_eI x) S' (ev_rng x) := by
  obtain ⟨d, rfl⟩ : ∃ e, d = e + 1 := ⟨d - 1, by omega⟩
  refine ev_ref_of (P := ev_rng) (lv := [(0, .ref 281), (1, .int (Int32.ofInt a0))]) (by decide +kernel) (by (try simp only [ev_sum, ev_nv_cat]); first | done | rfl) (by (try simp only [lv_args, ev_nv_cat]); first | done | rfl) ?_ x S' hJ
  unfold jm_118
  refine ev_r_iload_n (pc := 0) (k := 1) (v := Int32.ofInt a0) (by decide +kernel) (by rfl) ?_
  refine ev_r_if (pc := 1) (q := .ne) (o := 17) (t := 18) (c := a0 ≠ 0) (by decide +kernel) (ev_k_ne ha0 ev_rng0) (by decide +kernel) ?_ ?_
  · intro c1
    refine ev_r_aload_n (pc := 18) (k := 0) (v := .ref 281) trivial (by decide +kernel) (by rfl) ?_
    refine ev_r_iload_n (pc := 19) (k := 1) (v := Int32.ofInt a0) (by decide +kernel) (by rfl) ?_
    refine ev_r_virt (pc := 20) (y := 52) (mi := 129) (na := 1) (k := 281) (as := [.int (Int32.ofInt a0)]) (rest := []) (encc := ev_oI) (Q := ev_rng) (fun x S1 h => jt_129 d (by omega) Q a0 ha0 S x S1 h) (by exact ev_ob_281) (by decide +kernel) (by decide +kernel) (by decide +kernel) (by decide +kernel) rfl (by (try simp only [ev_sum, ev_nv_cat]); first | done | rfl) ?_
    intro x3 s2 hx3
    show ev_w _ _ _ _ _ [.int (Int32.ofInt x3)] _ _ _ _
    refine ev_r_istore_n (pc := 23) (k := 2) (by decide +kernel) (by decide +kernel) rfl ?_
    refine ev_r_iload_n (pc := 24) (k := 2) (v := Int32.ofInt x3) (by decide +kernel) (by exact ev_lk_st1_self) ?_
    refine ev_r_if (pc := 25) (q := .ge) (o := 8) (t := 33) (c := 0 ≤ x3) (by decide +kernel) (ev_k_ge hx3 ev_rng0) (by decide +kernel) ?_ ?_
    · intro c4
      refine ev_r_sipush (pc := 33) (k := 1000) (by decide +kernel) (by decide +kernel) ?_
      refine ev_r_aload_n (pc := 36) (k := 0) (v := .ref 281) trivial (by decide +kernel) (by exact (ev_l1 (by rfl) (by decide) (by decide))) ?_
      refine ev_r_getC (pc := 37) (y := 14) (ci := 8) (f := 6) (fin := 1) (k' := 282) (by decide +kernel) (by decide +kernel) (by exact ev_ob_281) rfl rfl ?_
      refine ev_r_iload_n (pc := 40) (k := 2) (v := Int32.ofInt x3) (by decide +kernel) (by exact ev_lk_st1_self) ?_
      refine ev_r_iconst (pc := 41) (k := 2) (by decide +kernel) ?_
      refine ev_r_iadd (pc := 42) (by decide +kernel) ?_
      intro x5 hx5
      refine ev_r_iald (pc := 43) hx5 (by decide +kernel) (by exact ev_ab_282) ?_
      intro x6 hx6
      refine ev_r_imul (pc := 44) (by decide +kernel) ?_
      intro x7 hx7
      refine ev_r_aload_n (pc := 45) (k := 0) (v := .ref 281) trivial (by decide +kernel) (by exact (ev_l1 (by rfl) (by decide) (by decide))) ?_
      refine ev_r_getC (pc := 46) (y := 14) (ci := 8) (f := 6) (fin := 1) (k' := 282) (by decide +kernel) (by decide +kernel) (by exact ev_ob_281) rfl rfl ?_
      refine ev_r_iload_n (pc := 49) (k := 2) (v := Int32.ofInt x3) (by decide +kernel) (by exact ev_lk_st1_self) ?_
      refine ev_r_iconst (pc := 50) (k := 3) (by decide +kernel) ?_
      refine ev_r_iadd (pc := 51) (by decide +kernel) ?_
      intro x8 hx8
      refine ev_r_iald (pc := 52) hx8 (by decide +kernel) (by exact ev_ab_282) ?_
      intro x9 hx9
      refine ev_r_iadd (pc := 53) (by decide +kernel) ?_
      intro x10 hx10
      exact ev_r_ireturn (pc := 54) (x := x10) (v := Int32.ofInt x10) (ty := .int) hx10 (by decide +kernel) (by decide +kernel) rfl rfl
    · intro c4
      refine ev_r_bipush (pc := 28) (k := -3) (by decide +kernel) (by decide +kernel) ?_
      refine ev_r_goto (pc := 30) (o := 24) (t := 54) (by decide +kernel) (by decide +kernel) ?_
      exact ev_r_ireturn (pc := 54) (x := (-3)) (v := Int32.ofInt ((-3))) (ty := .int) (by decide) (by decide +kernel) (by decide +kernel) rfl rfl
  · intro c1
    refine ev_r_sipush (pc := 4) (k := 1000) (by decide +kernel) (by decide +kernel) ?_
    refine ev_r_aload_n (pc := 7) (k := 0) (v := .ref 281) trivial (by decide +kernel) (by rfl) ?_
    refine ev_r_getI (pc := 8) (y := 43) (ci := 8) (f := 11) (fin := 0) (by decide +kernel) (by decide +kernel) (by exact ev_ob_281) rfl ?_
    intro x11 hx11
    refine ev_r_imul (pc := 11) (by decide +kernel) ?_
    intro x12 hx12
    refine ev_r_aload_n (pc := 12) (k := 0) (v := .ref 281) trivial (by decide +kernel) (by rfl) ?_
    refine ev_r_getI (pc := 13) (y := 46) (ci := 8) (f := 12) (fin := 0) (by decide +kernel) (by decide +kernel) (by exact ev_ob_281) rfl ?_
    intro x13 hx13
    refine ev_r_iadd (pc := 16) (by decide +kernel) ?_
    intro x14 hx14
    exact ev_r_ireturn (pc := 17) (x := x14) (v := Int32.ofInt x14) (ty := .int) hx14 (by decide +kernel) (by decide +kernel) rfl rfl
/-- MendBench.raised(I)I -/
def jm_213 (Q : Nat) (a0 : Int) (S : ev_St) : Option ((Int) × ev_St) := ev_bd (jm_209 Q a0 S) fun x2 s1 => if x2 = 0 then (some (a0, s1)) else (ev_ck (a0 - 32) fun x4 => some (x4, s1))
theorem jt_213 (d : Nat) (hd : 2 ≤ d) (Q : Nat) (a0 : Int) (ha0 : ev_rng a0) (S : ev_St) (x : Int) (S' : ev_St) (hJ : jm_213 Q a0 S = some (x, S')) : ev_Ref d 213 [.int (Int32.ofInt a0)] S (ev_eI x) S' (ev_rng x) := by
  obtain ⟨d, rfl⟩ : ∃ e, d = e + 1 := ⟨d - 1, by omega⟩
  refine ev_ref_of (P := ev_rng) (lv := [(0, .int (Int32.ofInt a0))]) (by decide +kernel) (by (try simp only [ev_sum, ev_nv_cat]); first | done | rfl) (by (try simp only [lv_args, ev_nv_cat]); first | done | rfl) ?_ x S' hJ
  unfold jm_213
  refine ev_r_iload_n (pc := 0) (k := 0) (v := Int32.ofInt a0) (by decide +kernel) (by rfl) ?_
  refine ev_r_stat (pc := 1) (y := 117) (kind := 2) (mi := 209) (na := 1) (as := [.int (Int32.ofInt a0)]) (rest := []) (encc := ev_oI) (Q := ev_bl) (fun x S1 h => jt_209 d (by omega) Q a0 ha0 S x S1 h) (Or.inl rfl) (by decide +kernel) (by decide +kernel) (by decide +kernel) (by decide +kernel) rfl (by (try simp only [ev_sum, ev_nv_cat]); first | done | rfl) ?_
  intro x2 s1 hx2
  replace hx2 := ev_bl_rng hx2
  show ev_w _ _ _ _ _ [.int (Int32.ofInt x2)] _ _ _ _
  refine ev_r_if (pc := 4) (q := .eq) (o := 10) (t := 14) (c := x2 = 0) (by decide +kernel) (ev_k_eq hx2 ev_rng0) (by decide +kernel) ?_ ?_
  · intro c3
    refine ev_r_iload_n (pc := 14) (k := 0) (v := Int32.ofInt a0) (by decide +kernel) (by rfl) ?_
    exact ev_r_ireturn (pc := 15) (x := a0) (v := Int32.ofInt a0) (ty := .int) ha0 (by decide +kernel) (by decide +kernel) rfl rfl
  · intro c3
    refine ev_r_iload_n (pc := 7) (k := 0) (v := Int32.ofInt a0) (by decide +kernel) (by rfl) ?_
    refine ev_r_bipush (pc := 8) (k := 32) (by decide +kernel) (by decide +kernel) ?_
    refine ev_r_isub (pc := 10) (by decide +kernel) ?_
    intro x4 hx4
    refine ev_r_goto (pc := 11) (o := 4) (t := 15) (by decide +kernel) (by decide +kernel) ?_
    exact ev_r_ireturn (pc := 15) (x := x4) (v := Int32.ofInt x4) (ty := .int) hx4 (by decide +kernel) (by decide +kernel) rfl rfl
/-- MendBench$Mender.putSign(I)V -/
def jm_54 (Q : Nat) (a0 : Int) (S : ev_St) : Option ((Unit) × ev_St) := ev_b (S.1 269 11) fun x1 => ev_jn (fun (x3 : Int) (r2 : Nat) (s5 : ev_St) => ev_bd (jm_152 Q r2 x3 s5) fun _ s6 => some ((), s6)) fun K35 => if x1 ≠ 1 then (ev_b (S.1 269 11) fun x8 => if x8 ≠ 2 then (K35 a0 272 S) else (ev_bd (jm_212 Q a0 S) fun x11 s10 => K35 x11 272 s10)) else (ev_bd (jm_213 Q a0 S) fun x13 s12 => K35 x13 272 s12)
theorem jt_54 (d : Nat) (hd : 3 ≤ d) (Q : Nat) (a0 : Int) (ha0 : ev_rng a0) (S : ev_St) (x : Unit) (S' : ev_St) (hJ : jm_54 Q a0 S = some (x, S')) : ev_Ref d 54 [.ref 269, .int (Int32.ofInt a0)] S (ev_eU x) S' (ev_PU x) := by
  obtain ⟨d, rfl⟩ : ∃ e, d = e + 1 := ⟨d - 1, by omega⟩
  refine ev_ref_of (P := ev_PU) (lv := [(0, .ref 269), (1, .int (Int32.ofInt a0))]) (by decide +kernel) (by (try simp only [ev_sum, ev_nv_cat]); first | done | rfl) (by (try simp only [lv_args, ev_nv_cat]); first | done | rfl) ?_ x S' hJ
  unfold jm_54
  refine ev_r_aload_n (pc := 0) (k := 0) (v := .ref 269) trivial (by decide +kernel) (by rfl) ?_
  refine ev_r_getC (pc := 1) (y := 18) (ci := 3) (f := 1) (fin := 1) (k' := 272) (by decide +kernel) (by decide +kernel) (by exact ev_ob_269) rfl rfl ?_
  refine ev_r_aload_n (pc := 4) (k := 0) (v := .ref 269) trivial (by decide +kernel) (by rfl) ?_
  refine ev_r_getI (pc := 5) (y := 123) (ci := 3) (f := 11) (fin := 0) (by decide +kernel) (by decide +kernel) (by exact ev_ob_269) rfl ?_
  intro x1 hx1
  refine ev_r_iconst (pc := 8) (k := 1) (by decide +kernel) ?_
  refine ev_r_jn (Q := fun K => ∀ (x3 : Int) (hx3 : ev_rng x3), ∀ (r2 : Nat) (hr2 : ev_isOb r2 10 = true), ∀ (s5 : ev_St) (w4 : List (Nat × Value)), ev_w none (ev_Mof 54) d 35 w4 [.int (Int32.ofInt x3), .ref r2] s5 (K x3 r2 s5) ev_eU ev_PU) ?_ ?_
  · intro x3 hx3 r2 hr2 s5 w4 
    refine ev_r_virt (pc := 35) (y := 159) (mi := 152) (na := 1) (k := r2) (as := [.int (Int32.ofInt x3)]) (rest := []) (encc := ev_oU) (Q := ev_PU) (fun x S1 h => jt_152 d (by omega) Q r2 x3 hr2 hx3 s5 x S1 h) (by exact hr2) (by decide +kernel) (by decide +kernel) (by decide +kernel) (by decide +kernel) rfl (by (try simp only [ev_sum, ev_nv_cat]); first | done | rfl) ?_
    intro _ s6 _
    show ev_w _ _ _ _ _ [] _ _ _ _
    exact ev_r_return (pc := 38) (x := ()) trivial (by decide +kernel) (by decide +kernel) rfl
  · intro K35 hK35
    refine ev_r_icmp (pc := 9) (q := .ne) (o := 10) (t := 19) (c := x1 ≠ 1) (by decide +kernel) (ev_k_ne hx1 (by decide)) (by decide +kernel) ?_ ?_
    · intro c7
      refine ev_r_aload_n (pc := 19) (k := 0) (v := .ref 269) trivial (by decide +kernel) (by rfl) ?_
      refine ev_r_getI (pc := 20) (y := 123) (ci := 3) (f := 11) (fin := 0) (by decide +kernel) (by decide +kernel) (by exact ev_ob_269) rfl ?_
      intro x8 hx8
      refine ev_r_iconst (pc := 23) (k := 2) (by decide +kernel) ?_
      refine ev_r_icmp (pc := 24) (q := .ne) (o := 10) (t := 34) (c := x8 ≠ 2) (by decide +kernel) (ev_k_ne hx8 (by decide)) (by decide +kernel) ?_ ?_
      · intro c9
        refine ev_r_iload_n (pc := 34) (k := 1) (v := Int32.ofInt a0) (by decide +kernel) (by rfl) ?_
        exact hK35 a0 ha0 272 ev_ob_272 S _ 
      · intro c9
        refine ev_r_iload_n (pc := 27) (k := 1) (v := Int32.ofInt a0) (by decide +kernel) (by rfl) ?_
        refine ev_r_stat (pc := 28) (y := 156) (kind := 5) (mi := 212) (na := 1) (as := [.int (Int32.ofInt a0)]) (rest := [.ref 272]) (encc := ev_oI) (Q := ev_rng) (fun x S1 h => jt_212 d (by omega) Q a0 ha0 S x S1 h) (Or.inr (Or.inl rfl)) (by decide +kernel) (by decide +kernel) (by decide +kernel) (by decide +kernel) rfl (by (try simp only [ev_sum, ev_nv_cat]); first | done | rfl) ?_
        intro x11 s10 hx11
        show ev_w _ _ _ _ _ [.int (Int32.ofInt x11), .ref 272] _ _ _ _
        refine ev_r_goto (pc := 31) (o := 4) (t := 35) (by decide +kernel) (by decide +kernel) ?_
        exact hK35 x11 hx11 272 ev_ob_272 s10 _ 
    · intro c7
      refine ev_r_iload_n (pc := 12) (k := 1) (v := Int32.ofInt a0) (by decide +kernel) (by rfl) ?_
      refine ev_r_stat (pc := 13) (y := 153) (kind := 5) (mi := 213) (na := 1) (as := [.int (Int32.ofInt a0)]) (rest := [.ref 272]) (encc := ev_oI) (Q := ev_rng) (fun x S1 h => jt_213 d (by omega) Q a0 ha0 S x S1 h) (Or.inr (Or.inl rfl)) (by decide +kernel) (by decide +kernel) (by decide +kernel) (by decide +kernel) rfl (by (try simp only [ev_sum, ev_nv_cat]); first | done | rfl) ?_
      intro x13 s12 hx13
      show ev_w _ _ _ _ _ [.int (Int32.ofInt x13), .ref 272] _ _ _ _
      refine ev_r_goto (pc := 16) (o := 19) (t := 35) (by decide +kernel) (by decide +kernel) ?_
      exact hK35 x13 hx13 272 ev_ob_272 s12 _ 
/-- MendBench$Mender.putSlashed(II)V -/
def jm_52 (Q : Nat) (a0 : Int) (a1 : Int) (S : ev_St) : Option ((Unit) × ev_St) := if a0 = 35 then (ev_jn (fun  (s5 : ev_St) => ev_if (10 ≠ 0) (ev_b (ev_irem a1 10) fun x6 => ev_ck (48 + x6) fun x7 => ev_bd (jm_54 Q x7 s5) fun _ s8 => some ((), s8))) fun K105 => if a1 < 10 then (K105  S) else (ev_if (10 ≠ 0) (ev_b (ev_idiv a1 10) fun x10 => ev_if (10 ≠ 0) (ev_b (ev_irem x10 10) fun x11 => ev_ck (48 + x11) fun x12 => ev_bd (jm_54 Q x12 S) fun _ s13 => K105  s13)))) else (if a0 = 69 then (ev_b (ev_pI S 269 11 0) fun s15 => some ((), s15)) else (if a0 = 76 then (ev_b (ev_pI S 269 11 2) fun s17 => some ((), s17)) else (if a0 = 85 then (ev_b (ev_pI S 269 11 1) fun s19 => some ((), s19)) else (if a0 = 110 then (ev_bd (jm_54 Q 10 S) fun _ s21 => some ((), s21)) else (ev_bd (jm_54 Q a0 S) fun _ s22 => some ((), s22))))))
theorem jt_52 (d : Nat) (hd : 4 ≤ d) (Q : Nat) (a0 : Int) (a1 : Int) (ha0 : ev_rng a0) (ha1 : ev_rng a1) (S : ev_St) (x : Unit) (S' : ev_St) (hJ : jm_52 Q a0 a1 S = some (x, S')) : ev_Ref d 52 [.ref 269, .int (Int32.ofInt a0), .int (Int32.ofInt a1)] S (ev_eU x) S' (ev_PU x) := by
  obtain ⟨d, rfl⟩ : ∃ e, d = e + 1 := ⟨d - 1, by omega⟩
  refine ev_ref_of (P := ev_PU) (lv := [(0, .ref 269), (1, .int (Int32.ofInt a0)), (2, .int (Int32.ofInt a1))]) (by decide +kernel) (by (try simp only [ev_sum, ev_nv_cat]); first | done | rfl) (by (try simp only [lv_args, ev_nv_cat]); first | done | rfl) ?_ x S' hJ
  unfold jm_52
  refine ev_r_iload_n (pc := 0) (k := 1) (v := Int32.ofInt a0) (by decide +kernel) (by rfl) ?_
  refine ev_r_ite ?_ ?_
  · intro c1
    refine ev_r_sw (pc := 1) (i := (.lookupswitch 118 #[(35, 84), (69, 67), (76, 59), (85, 51), (110, 75)])) (len := 51) (pc' := 85) (by decide +kernel) (by rw [c1]; rw [ev_pure_lsw]; exact ev_lsw_c (o := 84) (by decide) (by decide +kernel) (by decide +kernel) (by decide +kernel)) ?_
    refine ev_r_iload_n (pc := 85) (k := 2) (v := Int32.ofInt a1) (by decide +kernel) (by rfl) ?_
    refine ev_r_bipush (pc := 86) (k := 10) (by decide +kernel) (by decide +kernel) ?_
    refine ev_r_jn (Q := fun K => ∀ (s5 : ev_St) (w2 : List (Nat × Value)), ev_lk w2 0 = some (.ref 269) → ev_lk w2 2 = some (.int (Int32.ofInt a1)) → ev_w none (ev_Mof 52) d 105 w2 [] s5 (K  s5) ev_eU ev_PU) ?_ ?_
    · intro  s5 w2 e3 e4
      refine ev_r_aload_n (pc := 105) (k := 0) (v := .ref 269) trivial (by decide +kernel) (by exact e3) ?_
      refine ev_r_bipush (pc := 106) (k := 48) (by decide +kernel) (by decide +kernel) ?_
      refine ev_r_iload_n (pc := 108) (k := 2) (v := Int32.ofInt a1) (by decide +kernel) (by exact e4) ?_
      refine ev_r_bipush (pc := 109) (k := 10) (by decide +kernel) (by decide +kernel) ?_
      refine ev_r_irem (pc := 111) (by decide) (by decide +kernel) ?_
      intro x6 hx6
      refine ev_r_iadd (pc := 112) (by decide +kernel) ?_
      intro x7 hx7
      refine ev_r_virt (pc := 113) (y := 147) (mi := 54) (na := 1) (k := 269) (as := [.int (Int32.ofInt x7)]) (rest := []) (encc := ev_oU) (Q := ev_PU) (fun x S1 h => jt_54 d (by omega) Q x7 hx7 s5 x S1 h) (by exact ev_ob_269) (by decide +kernel) (by decide +kernel) (by decide +kernel) (by decide +kernel) rfl (by (try simp only [ev_sum, ev_nv_cat]); first | done | rfl) ?_
      intro _ s8 _
      show ev_w _ _ _ _ _ [] _ _ _ _
      refine ev_r_goto (pc := 116) (o := 8) (t := 124) (by decide +kernel) (by decide +kernel) ?_
      exact ev_r_return (pc := 124) (x := ()) trivial (by decide +kernel) (by decide +kernel) rfl
    · intro K105 hK105
      refine ev_r_icmp (pc := 88) (q := .lt) (o := 17) (t := 105) (c := a1 < 10) (by decide +kernel) (ev_k_lt ha1 (by decide)) (by decide +kernel) ?_ ?_
      · intro c9
        exact hK105  S _ (by rfl) (by rfl)
      · intro c9
        refine ev_r_aload_n (pc := 91) (k := 0) (v := .ref 269) trivial (by decide +kernel) (by rfl) ?_
        refine ev_r_bipush (pc := 92) (k := 48) (by decide +kernel) (by decide +kernel) ?_
        refine ev_r_iload_n (pc := 94) (k := 2) (v := Int32.ofInt a1) (by decide +kernel) (by rfl) ?_
        refine ev_r_bipush (pc := 95) (k := 10) (by decide +kernel) (by decide +kernel) ?_
        refine ev_r_idiv (pc := 97) (by decide) (by decide +kernel) ?_
        intro x10 hx10
        refine ev_r_bipush (pc := 98) (k := 10) (by decide +kernel) (by decide +kernel) ?_
        refine ev_r_irem (pc := 100) (by decide) (by decide +kernel) ?_
        intro x11 hx11
        refine ev_r_iadd (pc := 101) (by decide +kernel) ?_
        intro x12 hx12
        refine ev_r_virt (pc := 102) (y := 147) (mi := 54) (na := 1) (k := 269) (as := [.int (Int32.ofInt x12)]) (rest := []) (encc := ev_oU) (Q := ev_PU) (fun x S1 h => jt_54 d (by omega) Q x12 hx12 S x S1 h) (by exact ev_ob_269) (by decide +kernel) (by decide +kernel) (by decide +kernel) (by decide +kernel) rfl (by (try simp only [ev_sum, ev_nv_cat]); first | done | rfl) ?_
        intro _ s13 _
        show ev_w _ _ _ _ _ [] _ _ _ _
        exact hK105  s13 _ (by rfl) (by rfl)
  · intro c1
    refine ev_r_ite ?_ ?_
    · intro c14
      refine ev_r_sw (pc := 1) (i := (.lookupswitch 118 #[(35, 84), (69, 67), (76, 59), (85, 51), (110, 75)])) (len := 51) (pc' := 68) (by decide +kernel) (by rw [c14]; rw [ev_pure_lsw]; exact ev_lsw_c (o := 67) (by decide) (by decide +kernel) (by decide +kernel) (by decide +kernel)) ?_
      refine ev_r_aload_n (pc := 68) (k := 0) (v := .ref 269) trivial (by decide +kernel) (by rfl) ?_
      refine ev_r_iconst (pc := 69) (k := 0) (by decide +kernel) ?_
      refine ev_r_putI (pc := 70) (y := 123) (ci := 3) (f := 11) (by decide) (by decide +kernel) (by decide +kernel) (by exact ev_ob_269) rfl rfl ?_
      intro s15
      refine ev_r_goto (pc := 73) (o := 51) (t := 124) (by decide +kernel) (by decide +kernel) ?_
      exact ev_r_return (pc := 124) (x := ()) trivial (by decide +kernel) (by decide +kernel) rfl
    · intro c14
      refine ev_r_ite ?_ ?_
      · intro c16
        refine ev_r_sw (pc := 1) (i := (.lookupswitch 118 #[(35, 84), (69, 67), (76, 59), (85, 51), (110, 75)])) (len := 51) (pc' := 60) (by decide +kernel) (by rw [c16]; rw [ev_pure_lsw]; exact ev_lsw_c (o := 59) (by decide) (by decide +kernel) (by decide +kernel) (by decide +kernel)) ?_
        refine ev_r_aload_n (pc := 60) (k := 0) (v := .ref 269) trivial (by decide +kernel) (by rfl) ?_
        refine ev_r_iconst (pc := 61) (k := 2) (by decide +kernel) ?_
        refine ev_r_putI (pc := 62) (y := 123) (ci := 3) (f := 11) (by decide) (by decide +kernel) (by decide +kernel) (by exact ev_ob_269) rfl rfl ?_
        intro s17
        refine ev_r_goto (pc := 65) (o := 59) (t := 124) (by decide +kernel) (by decide +kernel) ?_
        exact ev_r_return (pc := 124) (x := ()) trivial (by decide +kernel) (by decide +kernel) rfl
      · intro c16
        refine ev_r_ite ?_ ?_
        · intro c18
          refine ev_r_sw (pc := 1) (i := (.lookupswitch 118 #[(35, 84), (69, 67), (76, 59), (85, 51), (110, 75)])) (len := 51) (pc' := 52) (by decide +kernel) (by rw [c18]; rw [ev_pure_lsw]; exact ev_lsw_c (o := 51) (by decide) (by decide +kernel) (by decide +kernel) (by decide +kernel)) ?_
          refine ev_r_aload_n (pc := 52) (k := 0) (v := .ref 269) trivial (by decide +kernel) (by rfl) ?_
          refine ev_r_iconst (pc := 53) (k := 1) (by decide +kernel) ?_
          refine ev_r_putI (pc := 54) (y := 123) (ci := 3) (f := 11) (by decide) (by decide +kernel) (by decide +kernel) (by exact ev_ob_269) rfl rfl ?_
          intro s19
          refine ev_r_goto (pc := 57) (o := 67) (t := 124) (by decide +kernel) (by decide +kernel) ?_
          exact ev_r_return (pc := 124) (x := ()) trivial (by decide +kernel) (by decide +kernel) rfl
        · intro c18
          refine ev_r_ite ?_ ?_
          · intro c20
            refine ev_r_sw (pc := 1) (i := (.lookupswitch 118 #[(35, 84), (69, 67), (76, 59), (85, 51), (110, 75)])) (len := 51) (pc' := 76) (by decide +kernel) (by rw [c20]; rw [ev_pure_lsw]; exact ev_lsw_c (o := 75) (by decide) (by decide +kernel) (by decide +kernel) (by decide +kernel)) ?_
            refine ev_r_aload_n (pc := 76) (k := 0) (v := .ref 269) trivial (by decide +kernel) (by rfl) ?_
            refine ev_r_bipush (pc := 77) (k := 10) (by decide +kernel) (by decide +kernel) ?_
            refine ev_r_virt (pc := 79) (y := 147) (mi := 54) (na := 1) (k := 269) (as := [.int (Int32.ofInt 10)]) (rest := []) (encc := ev_oU) (Q := ev_PU) (fun x S1 h => jt_54 d (by omega) Q 10 (by decide) S x S1 h) (by exact ev_ob_269) (by decide +kernel) (by decide +kernel) (by decide +kernel) (by decide +kernel) rfl (by (try simp only [ev_sum, ev_nv_cat]); first | done | rfl) ?_
            intro _ s21 _
            show ev_w _ _ _ _ _ [] _ _ _ _
            refine ev_r_goto (pc := 82) (o := 42) (t := 124) (by decide +kernel) (by decide +kernel) ?_
            exact ev_r_return (pc := 124) (x := ()) trivial (by decide +kernel) (by decide +kernel) rfl
          · intro c20
            refine ev_r_sw (pc := 1) (i := (.lookupswitch 118 #[(35, 84), (69, 67), (76, 59), (85, 51), (110, 75)])) (len := 51) (pc' := 119) (by decide +kernel) (by rw [ev_pure_lsw]; exact ev_lsw_c (o := 118) ha0 (by decide +kernel) (by show Op.lookupswitch.offset [(35, 84), (69, 67), (76, 59), (85, 51), (110, 75)] 118 a0 = 118; rw [Op.lookupswitch.offset_cons, if_neg (by omega), Op.lookupswitch.offset_cons, if_neg (by omega), Op.lookupswitch.offset_cons, if_neg (by omega), Op.lookupswitch.offset_cons, if_neg (by omega), Op.lookupswitch.offset_cons, if_neg (by omega), Op.lookupswitch.offset_nil]) (by decide +kernel)) ?_
            refine ev_r_aload_n (pc := 119) (k := 0) (v := .ref 269) trivial (by decide +kernel) (by rfl) ?_
            refine ev_r_iload_n (pc := 120) (k := 1) (v := Int32.ofInt a0) (by decide +kernel) (by rfl) ?_
            refine ev_r_virt (pc := 121) (y := 147) (mi := 54) (na := 1) (k := 269) (as := [.int (Int32.ofInt a0)]) (rest := []) (encc := ev_oU) (Q := ev_PU) (fun x S1 h => jt_54 d (by omega) Q a0 ha0 S x S1 h) (by exact ev_ob_269) (by decide +kernel) (by decide +kernel) (by decide +kernel) (by decide +kernel) rfl (by (try simp only [ev_sum, ev_nv_cat]); first | done | rfl) ?_
            intro _ s22 _
            show ev_w _ _ _ _ _ [] _ _ _ _
            exact ev_r_return (pc := 124) (x := ()) trivial (by decide +kernel) (by decide +kernel) rfl
/-- MendBench$Search.groupOf(I)I -/
def jm_120 (Q : Nat) (a0 : Int) (S : ev_St) : Option ((Int) × ev_St) := if a0 < 0 then (some (0, S)) else (if 26 ≤ a0 then (some (0, S)) else (ev_b (S.2.2.1 281 0) fun r3 => ev_if (r3 ≠ 0) (ev_if ((0 : Int) ≤ a0 ∧ a0 < (ev_aln (((r3 - 1) + 11)) : Int)) (ev_b (S.1 (((r3 - 1) + 11)) (Int.toNat a0)) fun x5 => some (x5, S)))))
theorem jt_120 (d : Nat) (hd : 1 ≤ d) (Q : Nat) (a0 : Int) (ha0 : ev_rng a0) (S : ev_St) (x : Int) (S' : ev_St) (hJ : jm_120 Q a0 S = some (x, S')) : ev_Ref d 120 [.ref 281, .int (Int32.ofInt a0)] S (ev_eI x) S' (ev_rng x) := by
  obtain ⟨d, rfl⟩ : ∃ e, d = e + 1 := ⟨d - 1, by omega⟩
  refine ev_ref_of (P := ev_rng) (lv := [(0, .ref 281), (1, .int (Int32.ofInt a0))]) (by decide +kernel) (by (try simp only [ev_sum, ev_nv_cat]); first | done | rfl) (by (try simp only [lv_args, ev_nv_cat]); first | done | rfl) ?_ x S' hJ
  unfold jm_120
  refine ev_r_iload_n (pc := 0) (k := 1) (v := Int32.ofInt a0) (by decide +kernel) (by rfl) ?_
  refine ev_r_if (pc := 1) (q := .lt) (o := 21) (t := 22) (c := a0 < 0) (by decide +kernel) (ev_k_lt ha0 ev_rng0) (by decide +kernel) ?_ ?_
  · intro c1
    refine ev_r_iconst (pc := 22) (k := 0) (by decide +kernel) ?_
    exact ev_r_ireturn (pc := 23) (x := 0) (v := Int32.ofInt 0) (ty := .int) (by decide) (by decide +kernel) (by decide +kernel) rfl rfl
  · intro c1
    refine ev_r_iload_n (pc := 4) (k := 1) (v := Int32.ofInt a0) (by decide +kernel) (by rfl) ?_
    refine ev_r_bipush (pc := 5) (k := 26) (by decide +kernel) (by decide +kernel) ?_
    refine ev_r_icmp (pc := 7) (q := .ge) (o := 15) (t := 22) (c := 26 ≤ a0) (by decide +kernel) (ev_k_ge ha0 (by decide)) (by decide +kernel) ?_ ?_
    · intro c2
      refine ev_r_iconst (pc := 22) (k := 0) (by decide +kernel) ?_
      exact ev_r_ireturn (pc := 23) (x := 0) (v := Int32.ofInt 0) (ty := .int) (by decide) (by decide +kernel) (by decide +kernel) rfl rfl
    · intro c2
      refine ev_r_aload_n (pc := 10) (k := 0) (v := .ref 281) trivial (by decide +kernel) (by rfl) ?_
      refine ev_r_getR (pc := 11) (y := 58) (ci := 8) (f := 0) (fin := 0) (t := 5) (by decide +kernel) (by decide +kernel) (by exact ev_ob_281) rfl rfl ?_
      intro r3 hr3
      have hr3 : r3 = 0 ∨ ev_isOb (r3 - 1) 5 = true := hr3
      refine ev_r_chk ?_
      intro c4
      refine ev_r_dr (r := r3) (fun v => [v]) c4 ?_
      refine ev_r_getC (pc := 14) (y := 62) (ci := 5) (f := 10) (fin := 2) (k' := ((r3 - 1) + 11)) (by decide +kernel) (by decide +kernel) (by exact (hr3.resolve_left c4)) rfl rfl ?_
      refine ev_r_iload_n (pc := 17) (k := 1) (v := Int32.ofInt a0) (by decide +kernel) (by rfl) ?_
      refine ev_r_iald (pc := 18) ha0 (by decide +kernel) (by exact (ev_fo_5_10 (hr3.resolve_left c4))) ?_
      intro x5 hx5
      refine ev_r_goto (pc := 19) (o := 4) (t := 23) (by decide +kernel) (by decide +kernel) ?_
      exact ev_r_ireturn (pc := 23) (x := x5) (v := Int32.ofInt x5) (ty := .int) hx5 (by decide +kernel) (by decide +kernel) rfl rfl
/-- MendBench$Search.signAt(I)I -/
def jm_119 (Q : Nat) (a0 : Int) (S : ev_St) : Option ((Int) × ev_St) := ev_b (S.2.2.1 281 1) fun r1 => ev_if (r1 ≠ 0) (ev_bd (jm_151 Q ((r1 - 1)) a0 S) fun x4 s3 => some (x4, s3))
theorem jt_119 (d : Nat) (hd : 2 ≤ d) (Q : Nat) (a0 : Int) (ha0 : ev_rng a0) (S : ev_St) (x : Int) (S' : ev_St) (hJ : jm_119 Q a0 S = some (x, S')) : ev_Ref d 119 [.ref 281, .int (Int32.ofInt a0)] S (ev_eI x) S' (ev_rng x) := by
  obtain ⟨d, rfl⟩ : ∃ e, d = e + 1 := ⟨d - 1, by omega⟩
  refine ev_ref_of (P := ev_rng) (lv := [(0, .ref 281), (1, .int (Int32.ofInt a0))]) (by decide +kernel) (by (try simp only [ev_sum, ev_nv_cat]); first | done | rfl) (by (try simp only [lv_args, ev_nv_cat]); first | done | rfl) ?_ x S' hJ
  unfold jm_119
  refine ev_r_aload_n (pc := 0) (k := 0) (v := .ref 281) trivial (by decide +kernel) (by rfl) ?_
  refine ev_r_getR (pc := 1) (y := 27) (ci := 8) (f := 1) (fin := 0) (t := 10) (by decide +kernel) (by decide +kernel) (by exact ev_ob_281) rfl rfl ?_
  intro r1 hr1
  have hr1 : r1 = 0 ∨ ev_isOb (r1 - 1) 10 = true := hr1
  refine ev_r_iload_n (pc := 4) (k := 1) (v := Int32.ofInt a0) (by decide +kernel) (by rfl) ?_
  refine ev_r_chk ?_
  intro c2
  refine ev_r_dr (r := r1) (fun v => [.int (Int32.ofInt a0), v]) c2 ?_
  refine ev_r_virt (pc := 5) (y := 55) (mi := 151) (na := 1) (k := (r1 - 1)) (as := [.int (Int32.ofInt a0)]) (rest := []) (encc := ev_oI) (Q := ev_rng) (fun x S1 h => jt_151 d (by omega) Q ((r1 - 1)) a0 (hr1.resolve_left c2) ha0 S x S1 h) (by exact (hr1.resolve_left c2)) (by decide +kernel) (by decide +kernel) (by decide +kernel) (by decide +kernel) rfl (by (try simp only [ev_sum, ev_nv_cat]); first | done | rfl) ?_
  intro x4 s3 hx4
  show ev_w _ _ _ _ _ [.int (Int32.ofInt x4)] _ _ _ _
  exact ev_r_ireturn (pc := 8) (x := x4) (v := Int32.ofInt x4) (ty := .int) hx4 (by decide +kernel) (by decide +kernel) rfl rfl
def jb_53_10 (Q : Nat) (a0 : Nat) (a1 : Int)  (K10 : Int → ev_St → Option ((Unit) × ev_St)) (x3 : Int) (s9 : ev_St) : Option ((Unit) × ev_St) := ev_if (1000 ≠ 0) (ev_b (ev_irem a1 1000) fun x10 => if x10 ≤ x3 then (some ((), s9)) else (ev_if (a0 ≠ 0) (ev_bd (jm_119 Q x3 s9) fun x14 s13 => ev_bd (jm_54 Q x14 s13) fun _ s15 => ev_ck (x3 + 1) fun x16 => K10 x16 s15)))
def jl_53_10 (Q : Nat) (a0 : Nat) (a1 : Int)  : Nat → Int → ev_St → Option ((Unit) × ev_St)
  | 0 => fun _ _ => none
  | q + 1 => jb_53_10 Q a0 a1  (jl_53_10 Q a0 a1  q)
theorem jbt_53_10 (d : Nat) (hd : 4 ≤ d + 1) (Q : Nat) (a0 : Nat) (a1 : Int) (ha0 : a0 = 0 ∨ ev_isOb (a0 - 1) 8 = true) (ha1 : ev_rng a1)   (K10 : Int → ev_St → Option ((Unit) × ev_St)) (hK10 : ∀ (x3 : Int) (hx3 : ev_rng x3), ∀ (s9 : ev_St) (w4 : List (Nat × Value)), ev_lk w4 0 = some (.ref 269) → ev_lk w4 1 = some (ev_nv a0) → ev_lk w4 2 = some (.int (Int32.ofInt a1)) → ev_lk w4 3 = some (.int (Int32.ofInt x3)) → ev_w none (ev_Mof 53) d 10 w4 [] s9 (K10 x3 s9) ev_eU ev_PU) : ∀ (x3 : Int) (hx3 : ev_rng x3), ∀ (s9 : ev_St) (w4 : List (Nat × Value)), ev_lk w4 0 = some (.ref 269) → ev_lk w4 1 = some (ev_nv a0) → ev_lk w4 2 = some (.int (Int32.ofInt a1)) → ev_lk w4 3 = some (.int (Int32.ofInt x3)) → ev_w none (ev_Mof 53) d 10 w4 [] s9 (jb_53_10 Q a0 a1  K10 x3 s9) ev_eU ev_PU := by
  intro x3 hx3 s9 w4 e5 e6 e7 e8
  unfold jb_53_10
  refine ev_r_iload_n (pc := 10) (k := 3) (v := Int32.ofInt x3) (by decide +kernel) (by exact e8) ?_
  refine ev_r_iload_n (pc := 11) (k := 2) (v := Int32.ofInt a1) (by decide +kernel) (by exact e7) ?_
  refine ev_r_sipush (pc := 12) (k := 1000) (by decide +kernel) (by decide +kernel) ?_
  refine ev_r_irem (pc := 15) (by decide) (by decide +kernel) ?_
  intro x10 hx10
  refine ev_r_icmp (pc := 16) (q := .ge) (o := 18) (t := 34) (c := x10 ≤ x3) (by decide +kernel) (ev_k_ge hx3 hx10) (by decide +kernel) ?_ ?_
  · intro c11
    exact ev_r_return (pc := 34) (x := ()) trivial (by decide +kernel) (by decide +kernel) rfl
  · intro c11
    refine ev_r_aload_n (pc := 19) (k := 0) (v := .ref 269) trivial (by decide +kernel) (by exact e5) ?_
    refine ev_r_aload_n (pc := 20) (k := 1) (v := ev_nv a0) (ev_isR_nv _) (by decide +kernel) (by exact e6) ?_
    refine ev_r_iload_n (pc := 21) (k := 3) (v := Int32.ofInt x3) (by decide +kernel) (by exact e8) ?_
    refine ev_r_chk ?_
    intro c12
    refine ev_r_dr2 (r := a0) (k := 281) (fun v => [.int (Int32.ofInt x3), v, .ref 269]) c12 (ev_on_8 (ha0.resolve_left c12)) ?_
    refine ev_r_virt (pc := 22) (y := 150) (mi := 119) (na := 1) (k := 281) (as := [.int (Int32.ofInt x3)]) (rest := [.ref 269]) (encc := ev_oI) (Q := ev_rng) (fun x S1 h => jt_119 d (by omega) Q x3 hx3 s9 x S1 h) (by exact ev_ob_281) (by decide +kernel) (by decide +kernel) (by decide +kernel) (by decide +kernel) rfl (by (try simp only [ev_sum, ev_nv_cat]); first | done | rfl) ?_
    intro x14 s13 hx14
    show ev_w _ _ _ _ _ [.int (Int32.ofInt x14), .ref 269] _ _ _ _
    refine ev_r_virt (pc := 25) (y := 147) (mi := 54) (na := 1) (k := 269) (as := [.int (Int32.ofInt x14)]) (rest := []) (encc := ev_oU) (Q := ev_PU) (fun x S1 h => jt_54 d (by omega) Q x14 hx14 s13 x S1 h) (by exact ev_ob_269) (by decide +kernel) (by decide +kernel) (by decide +kernel) (by decide +kernel) rfl (by (try simp only [ev_sum, ev_nv_cat]); first | done | rfl) ?_
    intro _ s15 _
    show ev_w _ _ _ _ _ [] _ _ _ _
    refine ev_r_iinc (pc := 28) (k := 3) (c := 1) (x := x3) (by decide +kernel) (by decide +kernel) (by exact e8) (fun _ => rfl) ?_
    intro x16 hx16
    refine ev_r_goto (pc := 31) (o := (-21)) (t := 10) (by decide +kernel) (by decide +kernel) ?_
    exact hK10 x16 hx16 s15 _ (by exact (ev_l1 e5 (by decide) (by decide))) (by exact (ev_l1 e6 (by decide) (by decide))) (by exact (ev_lk_st1 e7 (by decide) rfl)) (by exact ev_lk_st1_self)
theorem jlt_53_10 (d : Nat) (hd : 4 ≤ d + 1) (Q : Nat) (a0 : Nat) (a1 : Int) (ha0 : a0 = 0 ∨ ev_isOb (a0 - 1) 8 = true) (ha1 : ev_rng a1)   : ∀ q : Nat, ∀ (x3 : Int) (hx3 : ev_rng x3), ∀ (s9 : ev_St) (w4 : List (Nat × Value)), ev_lk w4 0 = some (.ref 269) → ev_lk w4 1 = some (ev_nv a0) → ev_lk w4 2 = some (.int (Int32.ofInt a1)) → ev_lk w4 3 = some (.int (Int32.ofInt x3)) → ev_w none (ev_Mof 53) d 10 w4 [] s9 (jl_53_10 Q a0 a1  q x3 s9) ev_eU ev_PU := by
  intro q
  induction q with
  | zero =>
    intro x3 hx3 s9 w4 e5 e6 e7 e8
    exact ev_w_none
  | succ q ih => exact jbt_53_10 d hd Q a0 a1 ha0 ha1   _ ih
/-- MendBench$Mender.putSpan(LMendBench$Search;I)V -/
def jm_53 (Q : Nat) (a0 : Nat) (a1 : Int) (S : ev_St) : Option ((Unit) × ev_St) := if a1 < 0 then (some ((), S)) else (ev_if (1000 ≠ 0) (ev_b (ev_idiv a1 1000) fun x2 => jl_53_10 Q a0 a1  Q x2 S))
theorem jt_53 (d : Nat) (hd : 4 ≤ d) (Q : Nat) (a0 : Nat) (a1 : Int) (ha0 : a0 = 0 ∨ ev_isOb (a0 - 1) 8 = true) (ha1 : ev_rng a1) (S : ev_St) (x : Unit) (S' : ev_St) (hJ : jm_53 Q a0 a1 S = some (x, S')) : ev_Ref d 53 [.ref 269, ev_nv a0, .int (Int32.ofInt a1)] S (ev_eU x) S' (ev_PU x) := by
  obtain ⟨d, rfl⟩ : ∃ e, d = e + 1 := ⟨d - 1, by omega⟩
  refine ev_ref_of (P := ev_PU) (lv := [(0, .ref 269), (1, ev_nv a0), (2, .int (Int32.ofInt a1))]) (by decide +kernel) (by (try simp only [ev_sum, ev_nv_cat]); first | done | rfl) (by (try simp only [lv_args, ev_nv_cat]); first | done | rfl) ?_ x S' hJ
  unfold jm_53
  refine ev_r_iload_n (pc := 0) (k := 2) (v := Int32.ofInt a1) (by decide +kernel) (by rfl) ?_
  refine ev_r_if (pc := 1) (q := .lt) (o := 33) (t := 34) (c := a1 < 0) (by decide +kernel) (ev_k_lt ha1 ev_rng0) (by decide +kernel) ?_ ?_
  · intro c1
    exact ev_r_return (pc := 34) (x := ()) trivial (by decide +kernel) (by decide +kernel) rfl
  · intro c1
    refine ev_r_iload_n (pc := 4) (k := 2) (v := Int32.ofInt a1) (by decide +kernel) (by rfl) ?_
    refine ev_r_sipush (pc := 5) (k := 1000) (by decide +kernel) (by decide +kernel) ?_
    refine ev_r_idiv (pc := 8) (by decide) (by decide +kernel) ?_
    intro x2 hx2
    refine ev_r_istore_n (pc := 9) (k := 3) (by decide +kernel) (by decide +kernel) rfl ?_
    exact jlt_53_10 d hd Q a0 a1 ha0 ha1   Q x2 hx2 S _ (by exact (ev_l1 (by rfl) (by decide) (by decide))) (by exact (ev_l1 (by rfl) (by decide) (by decide))) (by exact (ev_lk_st1 (by rfl) (by decide) rfl)) (by exact ev_lk_st1_self)
/-- MendBench$Mender.putPiece(LMendBench$Text;ILMendBench$Search;I)V -/
def jm_51 (Q : Nat) (a0 : Nat) (a1 : Int) (a2 : Nat) (a3 : Int) (S : ev_St) : Option ((Unit) × ev_St) := ev_if (a0 ≠ 0) (ev_bd (jm_151 Q ((a0 - 1)) a1 S) fun x3 s2 => ev_ck (a1 + 1) fun x4 => ev_if (a0 ≠ 0) (ev_bd (jm_151 Q ((a0 - 1)) x4 s2) fun x7 s6 => if x3 ≠ 92 then (ev_jn (fun  (s14 : ev_St) => if x3 ≠ 36 then (ev_bd (jm_54 Q x3 s14) fun _ s16 => some ((), s16)) else (ev_ck (x7 - 48) fun x17 => ev_if (a2 ≠ 0) (ev_bd (jm_118 Q x17 s14) fun x20 s19 => ev_bd (jm_53 Q a2 x20 s19) fun _ s21 => some ((), s21)))) fun K88 => if x3 ≠ 36 then (K88  s6) else (if x7 ≠ 123 then (K88  s6) else (ev_ck (a1 + 2) fun x24 => ev_if (a0 ≠ 0) (ev_bd (jm_151 Q ((a0 - 1)) x24 s6) fun x27 s26 => ev_ck (x27 - 97) fun x28 => ev_if (a2 ≠ 0) (ev_bd (jm_120 Q x28 s26) fun x31 s30 => ev_jn (fun (x33 : Int) (r32 : Nat) (s35 : ev_St) => ev_bd (jm_53 Q r32 x33 s35) fun _ s36 => some ((), s36)) fun K82 => if x31 ≠ 0 then (ev_if (a2 ≠ 0) (ev_bd (jm_118 Q x31 s30) fun x40 s39 => K82 x40 a2 s39)) else (K82 ((-3)) a2 s30)))))) else (ev_bd (jm_52 Q x7 a3 s6) fun _ s41 => some ((), s41))))
theorem jt_51 (d : Nat) (hd : 5 ≤ d) (Q : Nat) (a0 : Nat) (a1 : Int) (a2 : Nat) (a3 : Int) (ha0 : a0 = 0 ∨ ev_isOb (a0 - 1) 10 = true) (ha1 : ev_rng a1) (ha2 : a2 = 0 ∨ ev_isOb (a2 - 1) 8 = true) (ha3 : ev_rng a3) (S : ev_St) (x : Unit) (S' : ev_St) (hJ : jm_51 Q a0 a1 a2 a3 S = some (x, S')) : ev_Ref d 51 [.ref 269, ev_nv a0, .int (Int32.ofInt a1), ev_nv a2, .int (Int32.ofInt a3)] S (ev_eU x) S' (ev_PU x) := by
  obtain ⟨d, rfl⟩ : ∃ e, d = e + 1 := ⟨d - 1, by omega⟩
  refine ev_ref_of (P := ev_PU) (lv := [(0, .ref 269), (1, ev_nv a0), (2, .int (Int32.ofInt a1)), (3, ev_nv a2), (4, .int (Int32.ofInt a3))]) (by decide +kernel) (by (try simp only [ev_sum, ev_nv_cat]); first | done | rfl) (by (try simp only [lv_args, ev_nv_cat]); first | done | rfl) ?_ x S' hJ
  unfold jm_51
  refine ev_r_aload_n (pc := 0) (k := 1) (v := ev_nv a0) (ev_isR_nv _) (by decide +kernel) (by rfl) ?_
  refine ev_r_iload_n (pc := 1) (k := 2) (v := Int32.ofInt a1) (by decide +kernel) (by rfl) ?_
  refine ev_r_chk ?_
  intro c1
  refine ev_r_dr (r := a0) (fun v => [.int (Int32.ofInt a1), v]) c1 ?_
  refine ev_r_virt (pc := 2) (y := 109) (mi := 151) (na := 1) (k := (a0 - 1)) (as := [.int (Int32.ofInt a1)]) (rest := []) (encc := ev_oI) (Q := ev_rng) (fun x S1 h => jt_151 d (by omega) Q ((a0 - 1)) a1 (ha0.resolve_left c1) ha1 S x S1 h) (by exact (ha0.resolve_left c1)) (by decide +kernel) (by decide +kernel) (by decide +kernel) (by decide +kernel) rfl (by (try simp only [ev_sum, ev_nv_cat]); first | done | rfl) ?_
  intro x3 s2 hx3
  show ev_w _ _ _ _ _ [.int (Int32.ofInt x3)] _ _ _ _
  refine ev_r_istore (pc := 5) (k := 5) (by decide +kernel) (by decide +kernel) rfl ?_
  refine ev_r_aload_n (pc := 7) (k := 1) (v := ev_nv a0) (ev_isR_nv _) (by decide +kernel) (by exact (ev_l1 (by rfl) (by decide) (by decide))) ?_
  refine ev_r_iload_n (pc := 8) (k := 2) (v := Int32.ofInt a1) (by decide +kernel) (by exact (ev_l1 (by rfl) (by decide) (by decide))) ?_
  refine ev_r_iconst (pc := 9) (k := 1) (by decide +kernel) ?_
  refine ev_r_iadd (pc := 10) (by decide +kernel) ?_
  intro x4 hx4
  refine ev_r_chk ?_
  intro c5
  refine ev_r_dr (r := a0) (fun v => [.int (Int32.ofInt x4), v]) c5 ?_
  refine ev_r_virt (pc := 11) (y := 109) (mi := 151) (na := 1) (k := (a0 - 1)) (as := [.int (Int32.ofInt x4)]) (rest := []) (encc := ev_oI) (Q := ev_rng) (fun x S1 h => jt_151 d (by omega) Q ((a0 - 1)) x4 (ha0.resolve_left c5) hx4 s2 x S1 h) (by exact (ha0.resolve_left c5)) (by decide +kernel) (by decide +kernel) (by decide +kernel) (by decide +kernel) rfl (by (try simp only [ev_sum, ev_nv_cat]); first | done | rfl) ?_
  intro x7 s6 hx7
  show ev_w _ _ _ _ _ [.int (Int32.ofInt x7)] _ _ _ _
  refine ev_r_istore (pc := 14) (k := 6) (by decide +kernel) (by decide +kernel) rfl ?_
  refine ev_r_iload (pc := 16) (k := 5) (v := Int32.ofInt x3) (by decide +kernel) (by exact (ev_lk_st1 ev_lk_st1_self (by decide) rfl)) ?_
  refine ev_r_bipush (pc := 18) (k := 92) (by decide +kernel) (by decide +kernel) ?_
  refine ev_r_icmp (pc := 20) (q := .ne) (o := 14) (t := 34) (c := x3 ≠ 92) (by decide +kernel) (ev_k_ne hx3 (by decide)) (by decide +kernel) ?_ ?_
  · intro c8
    refine ev_r_iload (pc := 34) (k := 5) (v := Int32.ofInt x3) (by decide +kernel) (by exact (ev_lk_st1 ev_lk_st1_self (by decide) rfl)) ?_
    refine ev_r_bipush (pc := 36) (k := 36) (by decide +kernel) (by decide +kernel) ?_
    refine ev_r_jn (Q := fun K => ∀ (s14 : ev_St) (w9 : List (Nat × Value)), ev_lk w9 0 = some (.ref 269) → ev_lk w9 3 = some (ev_nv a2) → ev_lk w9 5 = some (.int (Int32.ofInt x3)) → ev_lk w9 6 = some (.int (Int32.ofInt x7)) → ev_w none (ev_Mof 51) d 88 w9 [] s14 (K  s14) ev_eU ev_PU) ?_ ?_
    · intro  s14 w9 e10 e11 e12 e13
      refine ev_r_iload (pc := 88) (k := 5) (v := Int32.ofInt x3) (by decide +kernel) (by exact e12) ?_
      refine ev_r_bipush (pc := 90) (k := 36) (by decide +kernel) (by decide +kernel) ?_
      refine ev_r_icmp (pc := 92) (q := .ne) (o := 20) (t := 112) (c := x3 ≠ 36) (by decide +kernel) (ev_k_ne hx3 (by decide)) (by decide +kernel) ?_ ?_
      · intro c15
        refine ev_r_aload_n (pc := 112) (k := 0) (v := .ref 269) trivial (by decide +kernel) (by exact e10) ?_
        refine ev_r_iload (pc := 113) (k := 5) (v := Int32.ofInt x3) (by decide +kernel) (by exact e12) ?_
        refine ev_r_virt (pc := 115) (y := 147) (mi := 54) (na := 1) (k := 269) (as := [.int (Int32.ofInt x3)]) (rest := []) (encc := ev_oU) (Q := ev_PU) (fun x S1 h => jt_54 d (by omega) Q x3 hx3 s14 x S1 h) (by exact ev_ob_269) (by decide +kernel) (by decide +kernel) (by decide +kernel) (by decide +kernel) rfl (by (try simp only [ev_sum, ev_nv_cat]); first | done | rfl) ?_
        intro _ s16 _
        show ev_w _ _ _ _ _ [] _ _ _ _
        exact ev_r_return (pc := 118) (x := ()) trivial (by decide +kernel) (by decide +kernel) rfl
      · intro c15
        refine ev_r_aload_n (pc := 95) (k := 0) (v := .ref 269) trivial (by decide +kernel) (by exact e10) ?_
        refine ev_r_aload_n (pc := 96) (k := 3) (v := ev_nv a2) (ev_isR_nv _) (by decide +kernel) (by exact e11) ?_
        refine ev_r_aload_n (pc := 97) (k := 3) (v := ev_nv a2) (ev_isR_nv _) (by decide +kernel) (by exact e11) ?_
        refine ev_r_iload (pc := 98) (k := 6) (v := Int32.ofInt x7) (by decide +kernel) (by exact e13) ?_
        refine ev_r_bipush (pc := 100) (k := 48) (by decide +kernel) (by decide +kernel) ?_
        refine ev_r_isub (pc := 102) (by decide +kernel) ?_
        intro x17 hx17
        refine ev_r_chk ?_
        intro c18
        refine ev_r_dr2 (r := a2) (k := 281) (fun v => [.int (Int32.ofInt x17), v, ev_nv a2, .ref 269]) c18 (ev_on_8 (ha2.resolve_left c18)) ?_
        refine ev_r_virt (pc := 103) (y := 129) (mi := 118) (na := 1) (k := 281) (as := [.int (Int32.ofInt x17)]) (rest := [ev_nv a2, .ref 269]) (encc := ev_oI) (Q := ev_rng) (fun x S1 h => jt_118 d (by omega) Q x17 hx17 s14 x S1 h) (by exact ev_ob_281) (by decide +kernel) (by decide +kernel) (by decide +kernel) (by decide +kernel) rfl (by (try simp only [ev_sum, ev_nv_cat]); first | done | rfl) ?_
        intro x20 s19 hx20
        show ev_w _ _ _ _ _ [.int (Int32.ofInt x20), ev_nv a2, .ref 269] _ _ _ _
        refine ev_r_virt (pc := 106) (y := 143) (mi := 53) (na := 2) (k := 269) (as := [ev_nv a2, .int (Int32.ofInt x20)]) (rest := []) (encc := ev_oU) (Q := ev_PU) (fun x S1 h => jt_53 d (by omega) Q a2 x20 (by exact ha2) hx20 s19 x S1 h) (by exact ev_ob_269) (by decide +kernel) (by decide +kernel) (by decide +kernel) (by decide +kernel) rfl (by (try simp only [ev_sum, ev_nv_cat]); first | done | rfl) ?_
        intro _ s21 _
        show ev_w _ _ _ _ _ [] _ _ _ _
        refine ev_r_goto (pc := 109) (o := 9) (t := 118) (by decide +kernel) (by decide +kernel) ?_
        exact ev_r_return (pc := 118) (x := ()) trivial (by decide +kernel) (by decide +kernel) rfl
    · intro K88 hK88
      refine ev_r_icmp (pc := 38) (q := .ne) (o := 50) (t := 88) (c := x3 ≠ 36) (by decide +kernel) (ev_k_ne hx3 (by decide)) (by decide +kernel) ?_ ?_
      · intro c22
        exact hK88  s6 _ (by exact (ev_l1 (ev_l1 (by rfl) (by decide) (by decide)) (by decide) (by decide))) (by exact (ev_l1 (ev_l1 (by rfl) (by decide) (by decide)) (by decide) (by decide))) (by exact (ev_lk_st1 ev_lk_st1_self (by decide) rfl)) (by exact ev_lk_st1_self)
      · intro c22
        refine ev_r_iload (pc := 41) (k := 6) (v := Int32.ofInt x7) (by decide +kernel) (by exact ev_lk_st1_self) ?_
        refine ev_r_bipush (pc := 43) (k := 123) (by decide +kernel) (by decide +kernel) ?_
        refine ev_r_icmp (pc := 45) (q := .ne) (o := 43) (t := 88) (c := x7 ≠ 123) (by decide +kernel) (ev_k_ne hx7 (by decide)) (by decide +kernel) ?_ ?_
        · intro c23
          exact hK88  s6 _ (by exact (ev_l1 (ev_l1 (by rfl) (by decide) (by decide)) (by decide) (by decide))) (by exact (ev_l1 (ev_l1 (by rfl) (by decide) (by decide)) (by decide) (by decide))) (by exact (ev_lk_st1 ev_lk_st1_self (by decide) rfl)) (by exact ev_lk_st1_self)
        · intro c23
          refine ev_r_aload_n (pc := 48) (k := 3) (v := ev_nv a2) (ev_isR_nv _) (by decide +kernel) (by exact (ev_l1 (ev_l1 (by rfl) (by decide) (by decide)) (by decide) (by decide))) ?_
          refine ev_r_aload_n (pc := 49) (k := 1) (v := ev_nv a0) (ev_isR_nv _) (by decide +kernel) (by exact (ev_l1 (ev_l1 (by rfl) (by decide) (by decide)) (by decide) (by decide))) ?_
          refine ev_r_iload_n (pc := 50) (k := 2) (v := Int32.ofInt a1) (by decide +kernel) (by exact (ev_l1 (ev_l1 (by rfl) (by decide) (by decide)) (by decide) (by decide))) ?_
          refine ev_r_iconst (pc := 51) (k := 2) (by decide +kernel) ?_
          refine ev_r_iadd (pc := 52) (by decide +kernel) ?_
          intro x24 hx24
          refine ev_r_chk ?_
          intro c25
          refine ev_r_dr (r := a0) (fun v => [.int (Int32.ofInt x24), v, ev_nv a2]) c25 ?_
          refine ev_r_virt (pc := 53) (y := 109) (mi := 151) (na := 1) (k := (a0 - 1)) (as := [.int (Int32.ofInt x24)]) (rest := [ev_nv a2]) (encc := ev_oI) (Q := ev_rng) (fun x S1 h => jt_151 d (by omega) Q ((a0 - 1)) x24 (ha0.resolve_left c25) hx24 s6 x S1 h) (by exact (ha0.resolve_left c25)) (by decide +kernel) (by decide +kernel) (by decide +kernel) (by decide +kernel) rfl (by (try simp only [ev_sum, ev_nv_cat]); first | done | rfl) ?_
          intro x27 s26 hx27
          show ev_w _ _ _ _ _ [.int (Int32.ofInt x27), ev_nv a2] _ _ _ _
          refine ev_r_bipush (pc := 56) (k := 97) (by decide +kernel) (by decide +kernel) ?_
          refine ev_r_isub (pc := 58) (by decide +kernel) ?_
          intro x28 hx28
          refine ev_r_chk ?_
          intro c29
          refine ev_r_dr2 (r := a2) (k := 281) (fun v => [.int (Int32.ofInt x28), v]) c29 (ev_on_8 (ha2.resolve_left c29)) ?_
          refine ev_r_virt (pc := 59) (y := 140) (mi := 120) (na := 1) (k := 281) (as := [.int (Int32.ofInt x28)]) (rest := []) (encc := ev_oI) (Q := ev_rng) (fun x S1 h => jt_120 d (by omega) Q x28 hx28 s26 x S1 h) (by exact ev_ob_281) (by decide +kernel) (by decide +kernel) (by decide +kernel) (by decide +kernel) rfl (by (try simp only [ev_sum, ev_nv_cat]); first | done | rfl) ?_
          intro x31 s30 hx31
          show ev_w _ _ _ _ _ [.int (Int32.ofInt x31)] _ _ _ _
          refine ev_r_istore (pc := 62) (k := 7) (by decide +kernel) (by decide +kernel) rfl ?_
          refine ev_r_aload_n (pc := 64) (k := 0) (v := .ref 269) trivial (by decide +kernel) (by exact (ev_l1 (ev_l1 (ev_l1 (by rfl) (by decide) (by decide)) (by decide) (by decide)) (by decide) (by decide))) ?_
          refine ev_r_aload_n (pc := 65) (k := 3) (v := ev_nv a2) (ev_isR_nv _) (by decide +kernel) (by exact (ev_l1 (ev_l1 (ev_l1 (by rfl) (by decide) (by decide)) (by decide) (by decide)) (by decide) (by decide))) ?_
          refine ev_r_iload (pc := 66) (k := 7) (v := Int32.ofInt x31) (by decide +kernel) (by exact ev_lk_st1_self) ?_
          refine ev_r_jn (Q := fun K => ∀ (x33 : Int) (hx33 : ev_rng x33), ∀ (r32 : Nat) (hr32 : r32 = 0 ∨ ev_isOb (r32 - 1) 8 = true), ∀ (s35 : ev_St) (w34 : List (Nat × Value)), ev_w none (ev_Mof 51) d 82 w34 [.int (Int32.ofInt x33), ev_nv r32, .ref 269] s35 (K x33 r32 s35) ev_eU ev_PU) ?_ ?_
          · intro x33 hx33 r32 hr32 s35 w34 
            refine ev_r_virt (pc := 82) (y := 143) (mi := 53) (na := 2) (k := 269) (as := [ev_nv r32, .int (Int32.ofInt x33)]) (rest := []) (encc := ev_oU) (Q := ev_PU) (fun x S1 h => jt_53 d (by omega) Q r32 x33 (by exact hr32) hx33 s35 x S1 h) (by exact ev_ob_269) (by decide +kernel) (by decide +kernel) (by decide +kernel) (by decide +kernel) rfl (by (try simp only [ev_sum, ev_nv_cat]); first | done | rfl) ?_
            intro _ s36 _
            show ev_w _ _ _ _ _ [] _ _ _ _
            refine ev_r_goto (pc := 85) (o := 33) (t := 118) (by decide +kernel) (by decide +kernel) ?_
            exact ev_r_return (pc := 118) (x := ()) trivial (by decide +kernel) (by decide +kernel) rfl
          · intro K82 hK82
            refine ev_r_if (pc := 68) (q := .ne) (o := 8) (t := 76) (c := x31 ≠ 0) (by decide +kernel) (ev_k_ne hx31 ev_rng0) (by decide +kernel) ?_ ?_
            · intro c37
              refine ev_r_aload_n (pc := 76) (k := 3) (v := ev_nv a2) (ev_isR_nv _) (by decide +kernel) (by exact (ev_l1 (ev_l1 (ev_l1 (by rfl) (by decide) (by decide)) (by decide) (by decide)) (by decide) (by decide))) ?_
              refine ev_r_iload (pc := 77) (k := 7) (v := Int32.ofInt x31) (by decide +kernel) (by exact ev_lk_st1_self) ?_
              refine ev_r_chk ?_
              intro c38
              refine ev_r_dr2 (r := a2) (k := 281) (fun v => [.int (Int32.ofInt x31), v, ev_nv a2, .ref 269]) c38 (ev_on_8 (ha2.resolve_left c38)) ?_
              refine ev_r_virt (pc := 79) (y := 129) (mi := 118) (na := 1) (k := 281) (as := [.int (Int32.ofInt x31)]) (rest := [ev_nv a2, .ref 269]) (encc := ev_oI) (Q := ev_rng) (fun x S1 h => jt_118 d (by omega) Q x31 hx31 s30 x S1 h) (by exact ev_ob_281) (by decide +kernel) (by decide +kernel) (by decide +kernel) (by decide +kernel) rfl (by (try simp only [ev_sum, ev_nv_cat]); first | done | rfl) ?_
              intro x40 s39 hx40
              show ev_w _ _ _ _ _ [.int (Int32.ofInt x40), ev_nv a2, .ref 269] _ _ _ _
              exact hK82 x40 hx40 a2 ha2 s39 _ 
            · intro c37
              refine ev_r_bipush (pc := 71) (k := -3) (by decide +kernel) (by decide +kernel) ?_
              refine ev_r_goto (pc := 73) (o := 9) (t := 82) (by decide +kernel) (by decide +kernel) ?_
              exact hK82 ((-3)) (by decide) a2 ha2 s30 _ 
  · intro c8
    refine ev_r_aload_n (pc := 23) (k := 0) (v := .ref 269) trivial (by decide +kernel) (by exact (ev_l1 (ev_l1 (by rfl) (by decide) (by decide)) (by decide) (by decide))) ?_
    refine ev_r_iload (pc := 24) (k := 6) (v := Int32.ofInt x7) (by decide +kernel) (by exact ev_lk_st1_self) ?_
    refine ev_r_iload (pc := 26) (k := 4) (v := Int32.ofInt a3) (by decide +kernel) (by exact (ev_l1 (ev_lk_st1 (by rfl) (by decide) rfl) (by decide) (by decide))) ?_
    refine ev_r_virt (pc := 28) (y := 136) (mi := 52) (na := 2) (k := 269) (as := [.int (Int32.ofInt x7), .int (Int32.ofInt a3)]) (rest := []) (encc := ev_oU) (Q := ev_PU) (fun x S1 h => jt_52 d (by omega) Q x7 a3 hx7 ha3 s6 x S1 h) (by exact ev_ob_269) (by decide +kernel) (by decide +kernel) (by decide +kernel) (by decide +kernel) rfl (by (try simp only [ev_sum, ev_nv_cat]); first | done | rfl) ?_
    intro _ s41 _
    show ev_w _ _ _ _ _ [] _ _ _ _
    refine ev_r_goto (pc := 31) (o := 87) (t := 118) (by decide +kernel) (by decide +kernel) ?_
    exact ev_r_return (pc := 118) (x := ()) trivial (by decide +kernel) (by decide +kernel) rfl
def jb_50_17 (Q : Nat) (a0 : Nat) (a1 : Nat) (a2 : Int)  (K17 : Int → Int → Int → ev_St → Option ((Unit) × ev_St)) (x2 : Int) (x3 : Int) (x4 : Int) (s13 : ev_St) : Option ((Unit) × ev_St) := ev_if (a0 ≠ 0) (ev_b (s13.1 ((a0 - 1)) 1) fun x15 => if x15 ≤ x4 then (some ((), s13)) else (ev_bd (jm_49 Q a0 x4 x2 s13) fun x18 s17 => ev_b (ev_imax 1 x18) fun x19 => ev_if (a0 ≠ 0) (ev_bd (jm_151 Q ((a0 - 1)) x4 s17) fun x22 s21 => ev_jn (fun (x23 : Int) (x24 : Int) (x25 : Int) (s35 : ev_St) => ev_ck (x4 + x25) fun x36 => K17 x23 x24 x36 s35) fun K148 => if x22 ≠ 63 then (ev_jn (fun  (s48 : ev_St) => ev_jn (fun  (s58 : ev_St) => if x3 = 0 then (K148 x2 x3 x19 s58) else (ev_bd (jm_51 Q a0 x4 a1 a2 s58) fun _ s60 => K148 x2 x3 x19 s60)) fun K134 => if x2 = 0 then (K134  s48) else (if x22 ≠ 125 then (K134  s48) else (K148 0 1 x19 s48))) fun K113 => if x2 = 0 then (K113  s21) else (if x22 ≠ 124 then (K113  s21) else (ev_jn (fun (x65 : Int) (s74 : ev_St) => K148 x2 x65 x19 s74) fun K108 => if x3 ≠ 0 then (K108 0 s21) else (K108 1 s21)))) else (ev_ck (x4 + 1) fun x76 => ev_if (a0 ≠ 0) (ev_bd (jm_151 Q ((a0 - 1)) x76 s21) fun x79 s78 => ev_ck (x79 - 48) fun x80 => ev_if (a1 ≠ 0) (ev_bd (jm_118 Q x80 s78) fun x83 s82 => ev_jn (fun (x84 : Int) (x85 : Int) (s94 : ev_St) => K148 x84 x85 x19 s94) fun K81 => if x83 < 0 then (K81 1 0 s82) else (K81 1 1 s82)))))))
def jl_50_17 (Q : Nat) (a0 : Nat) (a1 : Nat) (a2 : Int)  : Nat → Int → Int → Int → ev_St → Option ((Unit) × ev_St)
  | 0 => fun _ _ _ _ => none
  | q + 1 => jb_50_17 Q a0 a1 a2  (jl_50_17 Q a0 a1 a2  q)
theorem jbt_50_17 (d : Nat) (hd : 6 ≤ d + 1) (Q : Nat) (a0 : Nat) (a1 : Nat) (a2 : Int) (ha0 : a0 = 0 ∨ ev_isOb (a0 - 1) 10 = true) (ha1 : a1 = 0 ∨ ev_isOb (a1 - 1) 8 = true) (ha2 : ev_rng a2)   (K17 : Int → Int → Int → ev_St → Option ((Unit) × ev_St)) (hK17 : ∀ (x2 : Int) (hx2 : ev_rng x2), ∀ (x3 : Int) (hx3 : ev_rng x3), ∀ (x4 : Int) (hx4 : ev_rng x4), ∀ (s13 : ev_St) (w5 : List (Nat × Value)), ev_lk w5 0 = some (.ref 269) → ev_lk w5 1 = some (ev_nv a0) → ev_lk w5 2 = some (ev_nv a1) → ev_lk w5 3 = some (.int (Int32.ofInt a2)) → ev_lk w5 4 = some (.int (Int32.ofInt x2)) → ev_lk w5 5 = some (.int (Int32.ofInt x3)) → ev_lk w5 7 = some (.int (Int32.ofInt x4)) → ev_w none (ev_Mof 50) d 17 w5 [] s13 (K17 x2 x3 x4 s13) ev_eU ev_PU) : ∀ (x2 : Int) (hx2 : ev_rng x2), ∀ (x3 : Int) (hx3 : ev_rng x3), ∀ (x4 : Int) (hx4 : ev_rng x4), ∀ (s13 : ev_St) (w5 : List (Nat × Value)), ev_lk w5 0 = some (.ref 269) → ev_lk w5 1 = some (ev_nv a0) → ev_lk w5 2 = some (ev_nv a1) → ev_lk w5 3 = some (.int (Int32.ofInt a2)) → ev_lk w5 4 = some (.int (Int32.ofInt x2)) → ev_lk w5 5 = some (.int (Int32.ofInt x3)) → ev_lk w5 7 = some (.int (Int32.ofInt x4)) → ev_w none (ev_Mof 50) d 17 w5 [] s13 (jb_50_17 Q a0 a1 a2  K17 x2 x3 x4 s13) ev_eU ev_PU := by
  intro x2 hx2 x3 hx3 x4 hx4 s13 w5 e6 e7 e8 e9 e10 e11 e12
  unfold jb_50_17
  refine ev_r_iload (pc := 17) (k := 7) (v := Int32.ofInt x4) (by decide +kernel) (by exact e12) ?_
  refine ev_r_aload_n (pc := 19) (k := 1) (v := ev_nv a0) (ev_isR_nv _) (by decide +kernel) (by exact e7) ?_
  refine ev_r_chk ?_
  intro c14
  refine ev_r_dr (r := a0) (fun v => [v, .int (Int32.ofInt x4)]) c14 ?_
  refine ev_r_getI (pc := 20) (y := 54) (ci := 10) (f := 1) (fin := 0) (by decide +kernel) (by decide +kernel) (by exact (ha0.resolve_left c14)) rfl ?_
  intro x15 hx15
  refine ev_r_icmp (pc := 23) (q := .ge) (o := 135) (t := 158) (c := x15 ≤ x4) (by decide +kernel) (ev_k_ge hx4 hx15) (by decide +kernel) ?_ ?_
  · intro c16
    exact ev_r_return (pc := 158) (x := ()) trivial (by decide +kernel) (by decide +kernel) rfl
  · intro c16
    refine ev_r_iconst (pc := 26) (k := 1) (by decide +kernel) ?_
    refine ev_r_aload_n (pc := 27) (k := 1) (v := ev_nv a0) (ev_isR_nv _) (by decide +kernel) (by exact e7) ?_
    refine ev_r_iload (pc := 28) (k := 7) (v := Int32.ofInt x4) (by decide +kernel) (by exact e12) ?_
    refine ev_r_iload (pc := 30) (k := 4) (v := Int32.ofInt x2) (by decide +kernel) (by exact e10) ?_
    refine ev_r_stat (pc := 32) (y := 105) (kind := 2) (mi := 49) (na := 3) (as := [ev_nv a0, .int (Int32.ofInt x4), .int (Int32.ofInt x2)]) (rest := [.int (Int32.ofInt 1)]) (encc := ev_oI) (Q := ev_rng) (fun x S1 h => jt_49 d (by omega) Q a0 x4 x2 (by exact ha0) hx4 hx2 s13 x S1 h) (Or.inl rfl) (by decide +kernel) (by decide +kernel) (by decide +kernel) (by decide +kernel) rfl (by (try simp only [ev_sum, ev_nv_cat]); first | done | rfl) ?_
    intro x18 s17 hx18
    show ev_w _ _ _ _ _ [.int (Int32.ofInt x18), .int (Int32.ofInt 1)] _ _ _ _
    refine ev_r_mm1 (pc := 35) (y := 126) (kd := 10) (Or.inr rfl) (by decide +kernel) (by decide +kernel) (by (try simp only [ev_sum, ev_nv_cat]); first | done | rfl) ?_
    intro x19 hx19
    refine ev_r_istore (pc := 38) (k := 6) (by decide +kernel) (by decide +kernel) rfl ?_
    refine ev_r_aload_n (pc := 40) (k := 1) (v := ev_nv a0) (ev_isR_nv _) (by decide +kernel) (by exact (ev_l1 e7 (by decide) (by decide))) ?_
    refine ev_r_iload (pc := 41) (k := 7) (v := Int32.ofInt x4) (by decide +kernel) (by exact (ev_l1 e12 (by decide) (by decide))) ?_
    refine ev_r_chk ?_
    intro c20
    refine ev_r_dr (r := a0) (fun v => [.int (Int32.ofInt x4), v]) c20 ?_
    refine ev_r_virt (pc := 43) (y := 109) (mi := 151) (na := 1) (k := (a0 - 1)) (as := [.int (Int32.ofInt x4)]) (rest := []) (encc := ev_oI) (Q := ev_rng) (fun x S1 h => jt_151 d (by omega) Q ((a0 - 1)) x4 (ha0.resolve_left c20) hx4 s17 x S1 h) (by exact (ha0.resolve_left c20)) (by decide +kernel) (by decide +kernel) (by decide +kernel) (by decide +kernel) rfl (by (try simp only [ev_sum, ev_nv_cat]); first | done | rfl) ?_
    intro x22 s21 hx22
    show ev_w _ _ _ _ _ [.int (Int32.ofInt x22)] _ _ _ _
    refine ev_r_istore (pc := 46) (k := 8) (by decide +kernel) (by decide +kernel) rfl ?_
    refine ev_r_iload (pc := 48) (k := 8) (v := Int32.ofInt x22) (by decide +kernel) (by exact ev_lk_st1_self) ?_
    refine ev_r_bipush (pc := 50) (k := 63) (by decide +kernel) (by decide +kernel) ?_
    refine ev_r_jn (Q := fun K => ∀ (x23 : Int) (hx23 : ev_rng x23), ∀ (x24 : Int) (hx24 : ev_rng x24), ∀ (x25 : Int) (hx25 : ev_rng x25), ∀ (s35 : ev_St) (w26 : List (Nat × Value)), ev_lk w26 0 = some (.ref 269) → ev_lk w26 1 = some (ev_nv a0) → ev_lk w26 2 = some (ev_nv a1) → ev_lk w26 3 = some (.int (Int32.ofInt a2)) → ev_lk w26 4 = some (.int (Int32.ofInt x23)) → ev_lk w26 5 = some (.int (Int32.ofInt x24)) → ev_lk w26 6 = some (.int (Int32.ofInt x25)) → ev_lk w26 7 = some (.int (Int32.ofInt x4)) → ev_w none (ev_Mof 50) d 148 w26 [] s35 (K x23 x24 x25 s35) ev_eU ev_PU) ?_ ?_
    · intro x23 hx23 x24 hx24 x25 hx25 s35 w26 e27 e28 e29 e30 e31 e32 e33 e34
      refine ev_r_iload (pc := 148) (k := 7) (v := Int32.ofInt x4) (by decide +kernel) (by exact e34) ?_
      refine ev_r_iload (pc := 150) (k := 6) (v := Int32.ofInt x25) (by decide +kernel) (by exact e33) ?_
      refine ev_r_iadd (pc := 152) (by decide +kernel) ?_
      intro x36 hx36
      refine ev_r_istore (pc := 153) (k := 7) (by decide +kernel) (by decide +kernel) rfl ?_
      refine ev_r_goto (pc := 155) (o := (-138)) (t := 17) (by decide +kernel) (by decide +kernel) ?_
      exact hK17 x23 hx23 x24 hx24 x36 hx36 s35 _ (by exact (ev_l1 e27 (by decide) (by decide))) (by exact (ev_l1 e28 (by decide) (by decide))) (by exact (ev_l1 e29 (by decide) (by decide))) (by exact (ev_l1 e30 (by decide) (by decide))) (by exact (ev_l1 e31 (by decide) (by decide))) (by exact (ev_l1 e32 (by decide) (by decide))) (by exact ev_lk_st1_self)
    · intro K148 hK148
      refine ev_r_icmp (pc := 52) (q := .ne) (o := 34) (t := 86) (c := x22 ≠ 63) (by decide +kernel) (ev_k_ne hx22 (by decide)) (by decide +kernel) ?_ ?_
      · intro c37
        refine ev_r_iload (pc := 86) (k := 4) (v := Int32.ofInt x2) (by decide +kernel) (by exact (ev_l1 (ev_l1 e10 (by decide) (by decide)) (by decide) (by decide))) ?_
        refine ev_r_jn (Q := fun K => ∀ (s48 : ev_St) (w38 : List (Nat × Value)), ev_lk w38 0 = some (.ref 269) → ev_lk w38 1 = some (ev_nv a0) → ev_lk w38 2 = some (ev_nv a1) → ev_lk w38 3 = some (.int (Int32.ofInt a2)) → ev_lk w38 4 = some (.int (Int32.ofInt x2)) → ev_lk w38 5 = some (.int (Int32.ofInt x3)) → ev_lk w38 6 = some (.int (Int32.ofInt x19)) → ev_lk w38 7 = some (.int (Int32.ofInt x4)) → ev_lk w38 8 = some (.int (Int32.ofInt x22)) → ev_w none (ev_Mof 50) d 113 w38 [] s48 (K  s48) ev_eU ev_PU) ?_ ?_
        · intro  s48 w38 e39 e40 e41 e42 e43 e44 e45 e46 e47
          refine ev_r_iload (pc := 113) (k := 4) (v := Int32.ofInt x2) (by decide +kernel) (by exact e43) ?_
          refine ev_r_jn (Q := fun K => ∀ (s58 : ev_St) (w49 : List (Nat × Value)), ev_lk w49 0 = some (.ref 269) → ev_lk w49 1 = some (ev_nv a0) → ev_lk w49 2 = some (ev_nv a1) → ev_lk w49 3 = some (.int (Int32.ofInt a2)) → ev_lk w49 4 = some (.int (Int32.ofInt x2)) → ev_lk w49 5 = some (.int (Int32.ofInt x3)) → ev_lk w49 6 = some (.int (Int32.ofInt x19)) → ev_lk w49 7 = some (.int (Int32.ofInt x4)) → ev_w none (ev_Mof 50) d 134 w49 [] s58 (K  s58) ev_eU ev_PU) ?_ ?_
          · intro  s58 w49 e50 e51 e52 e53 e54 e55 e56 e57
            refine ev_r_iload (pc := 134) (k := 5) (v := Int32.ofInt x3) (by decide +kernel) (by exact e55) ?_
            refine ev_r_if (pc := 136) (q := .eq) (o := 12) (t := 148) (c := x3 = 0) (by decide +kernel) (ev_k_eq hx3 ev_rng0) (by decide +kernel) ?_ ?_
            · intro c59
              exact hK148 x2 hx2 x3 hx3 x19 hx19 s58 _ (by exact e50) (by exact e51) (by exact e52) (by exact e53) (by exact e54) (by exact e55) (by exact e56) (by exact e57)
            · intro c59
              refine ev_r_aload_n (pc := 139) (k := 0) (v := .ref 269) trivial (by decide +kernel) (by exact e50) ?_
              refine ev_r_aload_n (pc := 140) (k := 1) (v := ev_nv a0) (ev_isR_nv _) (by decide +kernel) (by exact e51) ?_
              refine ev_r_iload (pc := 141) (k := 7) (v := Int32.ofInt x4) (by decide +kernel) (by exact e57) ?_
              refine ev_r_aload_n (pc := 143) (k := 2) (v := ev_nv a1) (ev_isR_nv _) (by decide +kernel) (by exact e52) ?_
              refine ev_r_iload_n (pc := 144) (k := 3) (v := Int32.ofInt a2) (by decide +kernel) (by exact e53) ?_
              refine ev_r_virt (pc := 145) (y := 132) (mi := 51) (na := 4) (k := 269) (as := [ev_nv a0, .int (Int32.ofInt x4), ev_nv a1, .int (Int32.ofInt a2)]) (rest := []) (encc := ev_oU) (Q := ev_PU) (fun x S1 h => jt_51 d (by omega) Q a0 x4 a1 a2 (by exact ha0) hx4 (by exact ha1) ha2 s58 x S1 h) (by exact ev_ob_269) (by decide +kernel) (by decide +kernel) (by decide +kernel) (by decide +kernel) rfl (by (try simp only [ev_sum, ev_nv_cat]); first | done | rfl) ?_
              intro _ s60 _
              show ev_w _ _ _ _ _ [] _ _ _ _
              exact hK148 x2 hx2 x3 hx3 x19 hx19 s60 _ (by exact e50) (by exact e51) (by exact e52) (by exact e53) (by exact e54) (by exact e55) (by exact e56) (by exact e57)
          · intro K134 hK134
            refine ev_r_if (pc := 115) (q := .eq) (o := 19) (t := 134) (c := x2 = 0) (by decide +kernel) (ev_k_eq hx2 ev_rng0) (by decide +kernel) ?_ ?_
            · intro c61
              exact hK134  s48 _ (by exact e39) (by exact e40) (by exact e41) (by exact e42) (by exact e43) (by exact e44) (by exact e45) (by exact e46)
            · intro c61
              refine ev_r_iload (pc := 118) (k := 8) (v := Int32.ofInt x22) (by decide +kernel) (by exact e47) ?_
              refine ev_r_bipush (pc := 120) (k := 125) (by decide +kernel) (by decide +kernel) ?_
              refine ev_r_icmp (pc := 122) (q := .ne) (o := 12) (t := 134) (c := x22 ≠ 125) (by decide +kernel) (ev_k_ne hx22 (by decide)) (by decide +kernel) ?_ ?_
              · intro c62
                exact hK134  s48 _ (by exact e39) (by exact e40) (by exact e41) (by exact e42) (by exact e43) (by exact e44) (by exact e45) (by exact e46)
              · intro c62
                refine ev_r_iconst (pc := 125) (k := 0) (by decide +kernel) ?_
                refine ev_r_istore (pc := 126) (k := 4) (by decide +kernel) (by decide +kernel) rfl ?_
                refine ev_r_iconst (pc := 128) (k := 1) (by decide +kernel) ?_
                refine ev_r_istore (pc := 129) (k := 5) (by decide +kernel) (by decide +kernel) rfl ?_
                refine ev_r_goto (pc := 131) (o := 17) (t := 148) (by decide +kernel) (by decide +kernel) ?_
                exact hK148 0 (by decide) 1 (by decide) x19 hx19 s48 _ (by exact (ev_l1 (ev_l1 e39 (by decide) (by decide)) (by decide) (by decide))) (by exact (ev_l1 (ev_l1 e40 (by decide) (by decide)) (by decide) (by decide))) (by exact (ev_l1 (ev_l1 e41 (by decide) (by decide)) (by decide) (by decide))) (by exact (ev_l1 (ev_lk_st1 e42 (by decide) rfl) (by decide) (by decide))) (by exact (ev_lk_st1 ev_lk_st1_self (by decide) rfl)) (by exact ev_lk_st1_self) (by exact (ev_l1 (ev_l1 e45 (by decide) (by decide)) (by decide) (by decide))) (by exact (ev_l1 (ev_l1 e46 (by decide) (by decide)) (by decide) (by decide)))
        · intro K113 hK113
          refine ev_r_if (pc := 88) (q := .eq) (o := 25) (t := 113) (c := x2 = 0) (by decide +kernel) (ev_k_eq hx2 ev_rng0) (by decide +kernel) ?_ ?_
          · intro c63
            exact hK113  s21 _ (by exact (ev_l1 (ev_l1 e6 (by decide) (by decide)) (by decide) (by decide))) (by exact (ev_l1 (ev_l1 e7 (by decide) (by decide)) (by decide) (by decide))) (by exact (ev_l1 (ev_l1 e8 (by decide) (by decide)) (by decide) (by decide))) (by exact (ev_l1 (ev_l1 e9 (by decide) (by decide)) (by decide) (by decide))) (by exact (ev_l1 (ev_l1 e10 (by decide) (by decide)) (by decide) (by decide))) (by exact (ev_l1 (ev_lk_st1 e11 (by decide) rfl) (by decide) (by decide))) (by exact (ev_l1 ev_lk_st1_self (by decide) (by decide))) (by exact (ev_lk_st1 (ev_l1 e12 (by decide) (by decide)) (by decide) rfl)) (by exact ev_lk_st1_self)
          · intro c63
            refine ev_r_iload (pc := 91) (k := 8) (v := Int32.ofInt x22) (by decide +kernel) (by exact ev_lk_st1_self) ?_
            refine ev_r_bipush (pc := 93) (k := 124) (by decide +kernel) (by decide +kernel) ?_
            refine ev_r_icmp (pc := 95) (q := .ne) (o := 18) (t := 113) (c := x22 ≠ 124) (by decide +kernel) (ev_k_ne hx22 (by decide)) (by decide +kernel) ?_ ?_
            · intro c64
              exact hK113  s21 _ (by exact (ev_l1 (ev_l1 e6 (by decide) (by decide)) (by decide) (by decide))) (by exact (ev_l1 (ev_l1 e7 (by decide) (by decide)) (by decide) (by decide))) (by exact (ev_l1 (ev_l1 e8 (by decide) (by decide)) (by decide) (by decide))) (by exact (ev_l1 (ev_l1 e9 (by decide) (by decide)) (by decide) (by decide))) (by exact (ev_l1 (ev_l1 e10 (by decide) (by decide)) (by decide) (by decide))) (by exact (ev_l1 (ev_lk_st1 e11 (by decide) rfl) (by decide) (by decide))) (by exact (ev_l1 ev_lk_st1_self (by decide) (by decide))) (by exact (ev_lk_st1 (ev_l1 e12 (by decide) (by decide)) (by decide) rfl)) (by exact ev_lk_st1_self)
            · intro c64
              refine ev_r_iload (pc := 98) (k := 5) (v := Int32.ofInt x3) (by decide +kernel) (by exact (ev_l1 (ev_lk_st1 e11 (by decide) rfl) (by decide) (by decide))) ?_
              refine ev_r_jn (Q := fun K => ∀ (x65 : Int) (hx65 : ev_rng x65), ∀ (s74 : ev_St) (w66 : List (Nat × Value)), ev_lk w66 0 = some (.ref 269) → ev_lk w66 1 = some (ev_nv a0) → ev_lk w66 2 = some (ev_nv a1) → ev_lk w66 3 = some (.int (Int32.ofInt a2)) → ev_lk w66 4 = some (.int (Int32.ofInt x2)) → ev_lk w66 6 = some (.int (Int32.ofInt x19)) → ev_lk w66 7 = some (.int (Int32.ofInt x4)) → ev_w none (ev_Mof 50) d 108 w66 [.int (Int32.ofInt x65)] s74 (K x65 s74) ev_eU ev_PU) ?_ ?_
              · intro x65 hx65 s74 w66 e67 e68 e69 e70 e71 e72 e73
                refine ev_r_istore (pc := 108) (k := 5) (by decide +kernel) (by decide +kernel) rfl ?_
                refine ev_r_goto (pc := 110) (o := 38) (t := 148) (by decide +kernel) (by decide +kernel) ?_
                exact hK148 x2 hx2 x65 hx65 x19 hx19 s74 _ (by exact (ev_l1 e67 (by decide) (by decide))) (by exact (ev_l1 e68 (by decide) (by decide))) (by exact (ev_l1 e69 (by decide) (by decide))) (by exact (ev_l1 e70 (by decide) (by decide))) (by exact (ev_lk_st1 e71 (by decide) rfl)) (by exact ev_lk_st1_self) (by exact (ev_l1 e72 (by decide) (by decide))) (by exact (ev_l1 e73 (by decide) (by decide)))
              · intro K108 hK108
                refine ev_r_if (pc := 100) (q := .ne) (o := 7) (t := 107) (c := x3 ≠ 0) (by decide +kernel) (ev_k_ne hx3 ev_rng0) (by decide +kernel) ?_ ?_
                · intro c75
                  refine ev_r_iconst (pc := 107) (k := 0) (by decide +kernel) ?_
                  exact hK108 0 (by decide) s21 _ (by exact (ev_l1 (ev_l1 e6 (by decide) (by decide)) (by decide) (by decide))) (by exact (ev_l1 (ev_l1 e7 (by decide) (by decide)) (by decide) (by decide))) (by exact (ev_l1 (ev_l1 e8 (by decide) (by decide)) (by decide) (by decide))) (by exact (ev_l1 (ev_l1 e9 (by decide) (by decide)) (by decide) (by decide))) (by exact (ev_l1 (ev_l1 e10 (by decide) (by decide)) (by decide) (by decide))) (by exact (ev_l1 ev_lk_st1_self (by decide) (by decide))) (by exact (ev_lk_st1 (ev_l1 e12 (by decide) (by decide)) (by decide) rfl))
                · intro c75
                  refine ev_r_iconst (pc := 103) (k := 1) (by decide +kernel) ?_
                  refine ev_r_goto (pc := 104) (o := 4) (t := 108) (by decide +kernel) (by decide +kernel) ?_
                  exact hK108 1 (by decide) s21 _ (by exact (ev_l1 (ev_l1 e6 (by decide) (by decide)) (by decide) (by decide))) (by exact (ev_l1 (ev_l1 e7 (by decide) (by decide)) (by decide) (by decide))) (by exact (ev_l1 (ev_l1 e8 (by decide) (by decide)) (by decide) (by decide))) (by exact (ev_l1 (ev_l1 e9 (by decide) (by decide)) (by decide) (by decide))) (by exact (ev_l1 (ev_l1 e10 (by decide) (by decide)) (by decide) (by decide))) (by exact (ev_l1 ev_lk_st1_self (by decide) (by decide))) (by exact (ev_lk_st1 (ev_l1 e12 (by decide) (by decide)) (by decide) rfl))
      · intro c37
        refine ev_r_iconst (pc := 55) (k := 1) (by decide +kernel) ?_
        refine ev_r_istore (pc := 56) (k := 4) (by decide +kernel) (by decide +kernel) rfl ?_
        refine ev_r_aload_n (pc := 58) (k := 2) (v := ev_nv a1) (ev_isR_nv _) (by decide +kernel) (by exact (ev_l1 (ev_l1 (ev_l1 e8 (by decide) (by decide)) (by decide) (by decide)) (by decide) (by decide))) ?_
        refine ev_r_aload_n (pc := 59) (k := 1) (v := ev_nv a0) (ev_isR_nv _) (by decide +kernel) (by exact (ev_l1 (ev_l1 (ev_l1 e7 (by decide) (by decide)) (by decide) (by decide)) (by decide) (by decide))) ?_
        refine ev_r_iload (pc := 60) (k := 7) (v := Int32.ofInt x4) (by decide +kernel) (by exact (ev_l1 (ev_lk_st1 (ev_l1 e12 (by decide) (by decide)) (by decide) rfl) (by decide) (by decide))) ?_
        refine ev_r_iconst (pc := 62) (k := 1) (by decide +kernel) ?_
        refine ev_r_iadd (pc := 63) (by decide +kernel) ?_
        intro x76 hx76
        refine ev_r_chk ?_
        intro c77
        refine ev_r_dr (r := a0) (fun v => [.int (Int32.ofInt x76), v, ev_nv a1]) c77 ?_
        refine ev_r_virt (pc := 64) (y := 109) (mi := 151) (na := 1) (k := (a0 - 1)) (as := [.int (Int32.ofInt x76)]) (rest := [ev_nv a1]) (encc := ev_oI) (Q := ev_rng) (fun x S1 h => jt_151 d (by omega) Q ((a0 - 1)) x76 (ha0.resolve_left c77) hx76 s21 x S1 h) (by exact (ha0.resolve_left c77)) (by decide +kernel) (by decide +kernel) (by decide +kernel) (by decide +kernel) rfl (by (try simp only [ev_sum, ev_nv_cat]); first | done | rfl) ?_
        intro x79 s78 hx79
        show ev_w _ _ _ _ _ [.int (Int32.ofInt x79), ev_nv a1] _ _ _ _
        refine ev_r_bipush (pc := 67) (k := 48) (by decide +kernel) (by decide +kernel) ?_
        refine ev_r_isub (pc := 69) (by decide +kernel) ?_
        intro x80 hx80
        refine ev_r_chk ?_
        intro c81
        refine ev_r_dr2 (r := a1) (k := 281) (fun v => [.int (Int32.ofInt x80), v]) c81 (ev_on_8 (ha1.resolve_left c81)) ?_
        refine ev_r_virt (pc := 70) (y := 129) (mi := 118) (na := 1) (k := 281) (as := [.int (Int32.ofInt x80)]) (rest := []) (encc := ev_oI) (Q := ev_rng) (fun x S1 h => jt_118 d (by omega) Q x80 hx80 s78 x S1 h) (by exact ev_ob_281) (by decide +kernel) (by decide +kernel) (by decide +kernel) (by decide +kernel) rfl (by (try simp only [ev_sum, ev_nv_cat]); first | done | rfl) ?_
        intro x83 s82 hx83
        show ev_w _ _ _ _ _ [.int (Int32.ofInt x83)] _ _ _ _
        refine ev_r_jn (Q := fun K => ∀ (x84 : Int) (hx84 : ev_rng x84), ∀ (x85 : Int) (hx85 : ev_rng x85), ∀ (s94 : ev_St) (w86 : List (Nat × Value)), ev_lk w86 0 = some (.ref 269) → ev_lk w86 1 = some (ev_nv a0) → ev_lk w86 2 = some (ev_nv a1) → ev_lk w86 3 = some (.int (Int32.ofInt a2)) → ev_lk w86 4 = some (.int (Int32.ofInt x84)) → ev_lk w86 6 = some (.int (Int32.ofInt x19)) → ev_lk w86 7 = some (.int (Int32.ofInt x4)) → ev_w none (ev_Mof 50) d 81 w86 [.int (Int32.ofInt x85)] s94 (K x84 x85 s94) ev_eU ev_PU) ?_ ?_
        · intro x84 hx84 x85 hx85 s94 w86 e87 e88 e89 e90 e91 e92 e93
          refine ev_r_istore (pc := 81) (k := 5) (by decide +kernel) (by decide +kernel) rfl ?_
          refine ev_r_goto (pc := 83) (o := 65) (t := 148) (by decide +kernel) (by decide +kernel) ?_
          exact hK148 x84 hx84 x85 hx85 x19 hx19 s94 _ (by exact (ev_l1 e87 (by decide) (by decide))) (by exact (ev_l1 e88 (by decide) (by decide))) (by exact (ev_l1 e89 (by decide) (by decide))) (by exact (ev_l1 e90 (by decide) (by decide))) (by exact (ev_lk_st1 e91 (by decide) rfl)) (by exact ev_lk_st1_self) (by exact (ev_l1 e92 (by decide) (by decide))) (by exact (ev_l1 e93 (by decide) (by decide)))
        · intro K81 hK81
          refine ev_r_if (pc := 73) (q := .lt) (o := 7) (t := 80) (c := x83 < 0) (by decide +kernel) (ev_k_lt hx83 ev_rng0) (by decide +kernel) ?_ ?_
          · intro c95
            refine ev_r_iconst (pc := 80) (k := 0) (by decide +kernel) ?_
            exact hK81 1 (by decide) 0 (by decide) s82 _ (by exact (ev_l1 (ev_l1 (ev_l1 e6 (by decide) (by decide)) (by decide) (by decide)) (by decide) (by decide))) (by exact (ev_l1 (ev_l1 (ev_l1 e7 (by decide) (by decide)) (by decide) (by decide)) (by decide) (by decide))) (by exact (ev_l1 (ev_l1 (ev_l1 e8 (by decide) (by decide)) (by decide) (by decide)) (by decide) (by decide))) (by exact (ev_lk_st1 (ev_l1 (ev_l1 e9 (by decide) (by decide)) (by decide) (by decide)) (by decide) rfl)) (by exact ev_lk_st1_self) (by exact (ev_l1 (ev_l1 ev_lk_st1_self (by decide) (by decide)) (by decide) (by decide))) (by exact (ev_l1 (ev_lk_st1 (ev_l1 e12 (by decide) (by decide)) (by decide) rfl) (by decide) (by decide)))
          · intro c95
            refine ev_r_iconst (pc := 76) (k := 1) (by decide +kernel) ?_
            refine ev_r_goto (pc := 77) (o := 4) (t := 81) (by decide +kernel) (by decide +kernel) ?_
            exact hK81 1 (by decide) 1 (by decide) s82 _ (by exact (ev_l1 (ev_l1 (ev_l1 e6 (by decide) (by decide)) (by decide) (by decide)) (by decide) (by decide))) (by exact (ev_l1 (ev_l1 (ev_l1 e7 (by decide) (by decide)) (by decide) (by decide)) (by decide) (by decide))) (by exact (ev_l1 (ev_l1 (ev_l1 e8 (by decide) (by decide)) (by decide) (by decide)) (by decide) (by decide))) (by exact (ev_lk_st1 (ev_l1 (ev_l1 e9 (by decide) (by decide)) (by decide) (by decide)) (by decide) rfl)) (by exact ev_lk_st1_self) (by exact (ev_l1 (ev_l1 ev_lk_st1_self (by decide) (by decide)) (by decide) (by decide))) (by exact (ev_l1 (ev_lk_st1 (ev_l1 e12 (by decide) (by decide)) (by decide) rfl) (by decide) (by decide)))
theorem jlt_50_17 (d : Nat) (hd : 6 ≤ d + 1) (Q : Nat) (a0 : Nat) (a1 : Nat) (a2 : Int) (ha0 : a0 = 0 ∨ ev_isOb (a0 - 1) 10 = true) (ha1 : a1 = 0 ∨ ev_isOb (a1 - 1) 8 = true) (ha2 : ev_rng a2)   : ∀ q : Nat, ∀ (x2 : Int) (hx2 : ev_rng x2), ∀ (x3 : Int) (hx3 : ev_rng x3), ∀ (x4 : Int) (hx4 : ev_rng x4), ∀ (s13 : ev_St) (w5 : List (Nat × Value)), ev_lk w5 0 = some (.ref 269) → ev_lk w5 1 = some (ev_nv a0) → ev_lk w5 2 = some (ev_nv a1) → ev_lk w5 3 = some (.int (Int32.ofInt a2)) → ev_lk w5 4 = some (.int (Int32.ofInt x2)) → ev_lk w5 5 = some (.int (Int32.ofInt x3)) → ev_lk w5 7 = some (.int (Int32.ofInt x4)) → ev_w none (ev_Mof 50) d 17 w5 [] s13 (jl_50_17 Q a0 a1 a2  q x2 x3 x4 s13) ev_eU ev_PU := by
  intro q
  induction q with
  | zero =>
    intro x2 hx2 x3 hx3 x4 hx4 s13 w5 e6 e7 e8 e9 e10 e11 e12
    exact ev_w_none
  | succ q ih => exact jbt_50_17 d hd Q a0 a1 a2 ha0 ha1 ha2   _ ih
/-- MendBench$Mender.fillIn(LMendBench$Text;LMendBench$Search;I)V -/
def jm_50 (Q : Nat) (a0 : Nat) (a1 : Nat) (a2 : Int) (S : ev_St) : Option ((Unit) × ev_St) := ev_b (ev_pI S 269 11 0) fun s1 => jl_50_17 Q a0 a1 a2  Q 0 1 0 s1
theorem jt_50 (d : Nat) (hd : 6 ≤ d) (Q : Nat) (a0 : Nat) (a1 : Nat) (a2 : Int) (ha0 : a0 = 0 ∨ ev_isOb (a0 - 1) 10 = true) (ha1 : a1 = 0 ∨ ev_isOb (a1 - 1) 8 = true) (ha2 : ev_rng a2) (S : ev_St) (x : Unit) (S' : ev_St) (hJ : jm_50 Q a0 a1 a2 S = some (x, S')) : ev_Ref d 50 [.ref 269, ev_nv a0, ev_nv a1, .int (Int32.ofInt a2)] S (ev_eU x) S' (ev_PU x) := by
  obtain ⟨d, rfl⟩ : ∃ e, d = e + 1 := ⟨d - 1, by omega⟩
  refine ev_ref_of (P := ev_PU) (lv := [(0, .ref 269), (1, ev_nv a0), (2, ev_nv a1), (3, .int (Int32.ofInt a2))]) (by decide +kernel) (by (try simp only [ev_sum, ev_nv_cat]); first | done | rfl) (by (try simp only [lv_args, ev_nv_cat]); first | done | rfl) ?_ x S' hJ
  unfold jm_50
  refine ev_r_aload_n (pc := 0) (k := 0) (v := .ref 269) trivial (by decide +kernel) (by rfl) ?_
  refine ev_r_iconst (pc := 1) (k := 0) (by decide +kernel) ?_
  refine ev_r_putI (pc := 2) (y := 123) (ci := 3) (f := 11) (by decide) (by decide +kernel) (by decide +kernel) (by exact ev_ob_269) rfl rfl ?_
  intro s1
  refine ev_r_iconst (pc := 5) (k := 0) (by decide +kernel) ?_
  refine ev_r_istore (pc := 6) (k := 4) (by decide +kernel) (by decide +kernel) rfl ?_
  refine ev_r_iconst (pc := 8) (k := 1) (by decide +kernel) ?_
  refine ev_r_istore (pc := 9) (k := 5) (by decide +kernel) (by decide +kernel) rfl ?_
  refine ev_r_iconst (pc := 11) (k := 1) (by decide +kernel) ?_
  refine ev_r_istore (pc := 12) (k := 6) (by decide +kernel) (by decide +kernel) rfl ?_
  refine ev_r_iconst (pc := 14) (k := 0) (by decide +kernel) ?_
  refine ev_r_istore (pc := 15) (k := 7) (by decide +kernel) (by decide +kernel) rfl ?_
  exact jlt_50_17 d hd Q a0 a1 a2 ha0 ha1 ha2   Q 0 (by decide) 1 (by decide) 0 (by decide) s1 _ (by exact (ev_l1 (ev_l1 (ev_l1 (ev_l1 (by rfl) (by decide) (by decide)) (by decide) (by decide)) (by decide) (by decide)) (by decide) (by decide))) (by exact (ev_l1 (ev_l1 (ev_l1 (ev_l1 (by rfl) (by decide) (by decide)) (by decide) (by decide)) (by decide) (by decide)) (by decide) (by decide))) (by exact (ev_l1 (ev_l1 (ev_l1 (ev_l1 (by rfl) (by decide) (by decide)) (by decide) (by decide)) (by decide) (by decide)) (by decide) (by decide))) (by exact (ev_l1 (ev_l1 (ev_l1 (ev_lk_st1 (by rfl) (by decide) rfl) (by decide) (by decide)) (by decide) (by decide)) (by decide) (by decide))) (by exact (ev_l1 (ev_l1 (ev_lk_st1 ev_lk_st1_self (by decide) rfl) (by decide) (by decide)) (by decide) (by decide))) (by exact (ev_l1 (ev_lk_st1 ev_lk_st1_self (by decide) rfl) (by decide) (by decide))) (by exact ev_lk_st1_self)
/-- MendBench$Search.nextFrom()I -/
def jm_117 (Q : Nat)  (S : ev_St) : Option ((Int) × ev_St) := ev_b (S.1 281 12) fun x1 => ev_b (S.1 281 11) fun x2 => if x1 ≤ x2 then (ev_b (S.1 281 12) fun x4 => ev_ck (x4 + 1) fun x5 => some (x5, S)) else (ev_b (S.1 281 12) fun x6 => some (x6, S))
theorem jt_117 (d : Nat) (hd : 1 ≤ d) (Q : Nat)   (S : ev_St) (x : Int) (S' : ev_St) (hJ : jm_117 Q  S = some (x, S')) : ev_Ref d 117 [.ref 281] S (ev_eI x) S' (ev_rng x) := by
  obtain ⟨d, rfl⟩ : ∃ e, d = e + 1 := ⟨d - 1, by omega⟩
  refine ev_ref_of (P := ev_rng) (lv := [(0, .ref 281)]) (by decide +kernel) (by (try simp only [ev_sum, ev_nv_cat]); first | done | rfl) (by (try simp only [lv_args, ev_nv_cat]); first | done | rfl) ?_ x S' hJ
  unfold jm_117
  refine ev_r_aload_n (pc := 0) (k := 0) (v := .ref 281) trivial (by decide +kernel) (by rfl) ?_
  refine ev_r_getI (pc := 1) (y := 46) (ci := 8) (f := 12) (fin := 0) (by decide +kernel) (by decide +kernel) (by exact ev_ob_281) rfl ?_
  intro x1 hx1
  refine ev_r_aload_n (pc := 4) (k := 0) (v := .ref 281) trivial (by decide +kernel) (by rfl) ?_
  refine ev_r_getI (pc := 5) (y := 43) (ci := 8) (f := 11) (fin := 0) (by decide +kernel) (by decide +kernel) (by exact ev_ob_281) rfl ?_
  intro x2 hx2
  refine ev_r_icmp (pc := 8) (q := .le) (o := 10) (t := 18) (c := x1 ≤ x2) (by decide +kernel) (ev_k_le hx1 hx2) (by decide +kernel) ?_ ?_
  · intro c3
    refine ev_r_aload_n (pc := 18) (k := 0) (v := .ref 281) trivial (by decide +kernel) (by rfl) ?_
    refine ev_r_getI (pc := 19) (y := 46) (ci := 8) (f := 12) (fin := 0) (by decide +kernel) (by decide +kernel) (by exact ev_ob_281) rfl ?_
    intro x4 hx4
    refine ev_r_iconst (pc := 22) (k := 1) (by decide +kernel) ?_
    refine ev_r_iadd (pc := 23) (by decide +kernel) ?_
    intro x5 hx5
    exact ev_r_ireturn (pc := 24) (x := x5) (v := Int32.ofInt x5) (ty := .int) hx5 (by decide +kernel) (by decide +kernel) rfl rfl
  · intro c3
    refine ev_r_aload_n (pc := 11) (k := 0) (v := .ref 281) trivial (by decide +kernel) (by rfl) ?_
    refine ev_r_getI (pc := 12) (y := 46) (ci := 8) (f := 12) (fin := 0) (by decide +kernel) (by decide +kernel) (by exact ev_ob_281) rfl ?_
    intro x6 hx6
    refine ev_r_goto (pc := 15) (o := 9) (t := 24) (by decide +kernel) (by decide +kernel) ?_
    exact ev_r_ireturn (pc := 24) (x := x6) (v := Int32.ofInt x6) (ty := .int) hx6 (by decide +kernel) (by decide +kernel) rfl rfl
/-- MendBench$Mender.addEdit(IIII)V -/
def jm_46 (Q : Nat) (a0 : Int) (a1 : Int) (a2 : Int) (a3 : Int) (S : ev_St) : Option ((Unit) × ev_St) := ev_jn (fun (x1 : Int) (s8 : ev_St) => if x1 = 0 then (some ((), s8)) else (ev_b (s8.1 269 9) fun x10 => if x10 < 0 then (some ((), s8)) else (ev_b (s8.1 269 9) fun x12 => if 820 ≤ x12 then (some ((), s8)) else (ev_b (s8.1 269 10) fun x14 => if x14 < 0 then (some ((), s8)) else (ev_b (s8.1 269 10) fun x16 => ev_ck (x16 + a3) fun x17 => if x17 ≤ 800 then (ev_b (s8.1 269 9) fun x19 => ev_if ((0 : Int) ≤ x19 ∧ x19 < (ev_aln 277 : Int)) (ev_b (ev_pI s8 277 (Int.toNat x19) a0) fun s20 => ev_b (s20.1 269 9) fun x21 => ev_if ((0 : Int) ≤ x21 ∧ x21 < (ev_aln 278 : Int)) (ev_b (ev_pI s20 278 (Int.toNat x21) a1) fun s22 => ev_b (s22.1 269 9) fun x23 => ev_if ((0 : Int) ≤ x23 ∧ x23 < (ev_aln 279 : Int)) (ev_b (ev_pI s22 279 (Int.toNat x23) a3) fun s24 => ev_b (s24.1 269 10) fun x25 => ev_if ((0 : Int) ≤ a2 ∧ (0 : Int) ≤ x25 ∧ (0 : Int) ≤ a3 ∧ a2 + a3 ≤ (ev_aln 273 : Int) ∧ x25 + a3 ≤ (ev_aln 280 : Int)) (ev_b (ev_cpI s24 273 280 (Int.toNat a2) (Int.toNat x25) (Int.toNat a3)) fun s26 => ev_b (s26.1 269 9) fun x27 => ev_ck (x27 + 1) fun x28 => ev_b (ev_pI s26 269 9 x28) fun s29 => ev_b (s29.1 269 10) fun x30 => ev_ck (x30 + a3) fun x31 => ev_b (ev_pI s29 269 10 x31) fun s32 => some ((), s32)))))) else (some ((), s8))))))) fun K29 => ev_jn (fun  (s39 : ev_St) => K29 0 s39) fun K28 => if a2 < 0 then (K28  S) else (if a3 < 0 then (K28  S) else (ev_ck (a2 + a3) fun x42 => ev_b (ev_aln 273 : Int) fun x43 => if x43 < x42 then (K28  S) else (K29 1 S)))
theorem jt_46 (d : Nat) (hd : 1 ≤ d) (Q : Nat) (a0 : Int) (a1 : Int) (a2 : Int) (a3 : Int) (ha0 : ev_rng a0) (ha1 : ev_rng a1) (ha2 : ev_rng a2) (ha3 : ev_rng a3) (S : ev_St) (x : Unit) (S' : ev_St) (hJ : jm_46 Q a0 a1 a2 a3 S = some (x, S')) : ev_Ref d 46 [.ref 269, .int (Int32.ofInt a0), .int (Int32.ofInt a1), .int (Int32.ofInt a2), .int (Int32.ofInt a3)] S (ev_eU x) S' (ev_PU x) := by
  obtain ⟨d, rfl⟩ : ∃ e, d = e + 1 := ⟨d - 1, by omega⟩
  refine ev_ref_of (P := ev_PU) (lv := [(0, .ref 269), (1, .int (Int32.ofInt a0)), (2, .int (Int32.ofInt a1)), (3, .int (Int32.ofInt a2)), (4, .int (Int32.ofInt a3))]) (by decide +kernel) (by (try simp only [ev_sum, ev_nv_cat]); first | done | rfl) (by (try simp only [lv_args, ev_nv_cat]); first | done | rfl) ?_ x S' hJ
  unfold jm_46
  refine ev_r_iload_n (pc := 0) (k := 3) (v := Int32.ofInt a2) (by decide +kernel) (by rfl) ?_
  refine ev_r_jn (Q := fun K => ∀ (x1 : Int) (hx1 : ev_rng x1), ∀ (s8 : ev_St) (w2 : List (Nat × Value)), ev_lk w2 0 = some (.ref 269) → ev_lk w2 1 = some (.int (Int32.ofInt a0)) → ev_lk w2 2 = some (.int (Int32.ofInt a1)) → ev_lk w2 3 = some (.int (Int32.ofInt a2)) → ev_lk w2 4 = some (.int (Int32.ofInt a3)) → ev_w none (ev_Mof 46) d 29 w2 [.int (Int32.ofInt x1)] s8 (K x1 s8) ev_eU ev_PU) ?_ ?_
  · intro x1 hx1 s8 w2 e3 e4 e5 e6 e7
    refine ev_r_istore (pc := 29) (k := 5) (by decide +kernel) (by decide +kernel) rfl ?_
    refine ev_r_iload (pc := 31) (k := 5) (v := Int32.ofInt x1) (by decide +kernel) (by exact ev_lk_st1_self) ?_
    refine ev_r_if (pc := 33) (q := .eq) (o := 40) (t := 73) (c := x1 = 0) (by decide +kernel) (ev_k_eq hx1 ev_rng0) (by decide +kernel) ?_ ?_
    · intro c9
      exact ev_r_return (pc := 73) (x := ()) trivial (by decide +kernel) (by decide +kernel) rfl
    · intro c9
      refine ev_r_aload_n (pc := 36) (k := 0) (v := .ref 269) trivial (by decide +kernel) (by exact (ev_l1 e3 (by decide) (by decide))) ?_
      refine ev_r_getI (pc := 37) (y := 47) (ci := 3) (f := 9) (fin := 0) (by decide +kernel) (by decide +kernel) (by exact ev_ob_269) rfl ?_
      intro x10 hx10
      refine ev_r_if (pc := 40) (q := .lt) (o := 33) (t := 73) (c := x10 < 0) (by decide +kernel) (ev_k_lt hx10 ev_rng0) (by decide +kernel) ?_ ?_
      · intro c11
        exact ev_r_return (pc := 73) (x := ()) trivial (by decide +kernel) (by decide +kernel) rfl
      · intro c11
        refine ev_r_aload_n (pc := 43) (k := 0) (v := .ref 269) trivial (by decide +kernel) (by exact (ev_l1 e3 (by decide) (by decide))) ?_
        refine ev_r_getI (pc := 44) (y := 47) (ci := 3) (f := 9) (fin := 0) (by decide +kernel) (by decide +kernel) (by exact ev_ob_269) rfl ?_
        intro x12 hx12
        refine ev_r_sipush (pc := 47) (k := 820) (by decide +kernel) (by decide +kernel) ?_
        refine ev_r_icmp (pc := 50) (q := .ge) (o := 23) (t := 73) (c := 820 ≤ x12) (by decide +kernel) (ev_k_ge hx12 (by decide)) (by decide +kernel) ?_ ?_
        · intro c13
          exact ev_r_return (pc := 73) (x := ()) trivial (by decide +kernel) (by decide +kernel) rfl
        · intro c13
          refine ev_r_aload_n (pc := 53) (k := 0) (v := .ref 269) trivial (by decide +kernel) (by exact (ev_l1 e3 (by decide) (by decide))) ?_
          refine ev_r_getI (pc := 54) (y := 51) (ci := 3) (f := 10) (fin := 0) (by decide +kernel) (by decide +kernel) (by exact ev_ob_269) rfl ?_
          intro x14 hx14
          refine ev_r_if (pc := 57) (q := .lt) (o := 16) (t := 73) (c := x14 < 0) (by decide +kernel) (ev_k_lt hx14 ev_rng0) (by decide +kernel) ?_ ?_
          · intro c15
            exact ev_r_return (pc := 73) (x := ()) trivial (by decide +kernel) (by decide +kernel) rfl
          · intro c15
            refine ev_r_aload_n (pc := 60) (k := 0) (v := .ref 269) trivial (by decide +kernel) (by exact (ev_l1 e3 (by decide) (by decide))) ?_
            refine ev_r_getI (pc := 61) (y := 51) (ci := 3) (f := 10) (fin := 0) (by decide +kernel) (by decide +kernel) (by exact ev_ob_269) rfl ?_
            intro x16 hx16
            refine ev_r_iload (pc := 64) (k := 4) (v := Int32.ofInt a3) (by decide +kernel) (by exact (ev_lk_st1 e7 (by decide) rfl)) ?_
            refine ev_r_iadd (pc := 66) (by decide +kernel) ?_
            intro x17 hx17
            refine ev_r_sipush (pc := 67) (k := 800) (by decide +kernel) (by decide +kernel) ?_
            refine ev_r_icmp (pc := 70) (q := .le) (o := 4) (t := 74) (c := x17 ≤ 800) (by decide +kernel) (ev_k_le hx17 (by decide)) (by decide +kernel) ?_ ?_
            · intro c18
              refine ev_r_aload_n (pc := 74) (k := 0) (v := .ref 269) trivial (by decide +kernel) (by exact (ev_l1 e3 (by decide) (by decide))) ?_
              refine ev_r_getC (pc := 75) (y := 31) (ci := 3) (f := 5) (fin := 1) (k' := 277) (by decide +kernel) (by decide +kernel) (by exact ev_ob_269) rfl rfl ?_
              refine ev_r_aload_n (pc := 78) (k := 0) (v := .ref 269) trivial (by decide +kernel) (by exact (ev_l1 e3 (by decide) (by decide))) ?_
              refine ev_r_getI (pc := 79) (y := 47) (ci := 3) (f := 9) (fin := 0) (by decide +kernel) (by decide +kernel) (by exact ev_ob_269) rfl ?_
              intro x19 hx19
              refine ev_r_iload_n (pc := 82) (k := 1) (v := Int32.ofInt a0) (by decide +kernel) (by exact (ev_l1 e4 (by decide) (by decide))) ?_
              refine ev_r_iast (pc := 83) ha0 hx19 (by decide +kernel) (by exact ev_ab_277) ?_
              intro s20
              refine ev_r_aload_n (pc := 84) (k := 0) (v := .ref 269) trivial (by decide +kernel) (by exact (ev_l1 e3 (by decide) (by decide))) ?_
              refine ev_r_getC (pc := 85) (y := 34) (ci := 3) (f := 6) (fin := 1) (k' := 278) (by decide +kernel) (by decide +kernel) (by exact ev_ob_269) rfl rfl ?_
              refine ev_r_aload_n (pc := 88) (k := 0) (v := .ref 269) trivial (by decide +kernel) (by exact (ev_l1 e3 (by decide) (by decide))) ?_
              refine ev_r_getI (pc := 89) (y := 47) (ci := 3) (f := 9) (fin := 0) (by decide +kernel) (by decide +kernel) (by exact ev_ob_269) rfl ?_
              intro x21 hx21
              refine ev_r_iload_n (pc := 92) (k := 2) (v := Int32.ofInt a1) (by decide +kernel) (by exact (ev_l1 e5 (by decide) (by decide))) ?_
              refine ev_r_iast (pc := 93) ha1 hx21 (by decide +kernel) (by exact ev_ab_278) ?_
              intro s22
              refine ev_r_aload_n (pc := 94) (k := 0) (v := .ref 269) trivial (by decide +kernel) (by exact (ev_l1 e3 (by decide) (by decide))) ?_
              refine ev_r_getC (pc := 95) (y := 37) (ci := 3) (f := 7) (fin := 1) (k' := 279) (by decide +kernel) (by decide +kernel) (by exact ev_ob_269) rfl rfl ?_
              refine ev_r_aload_n (pc := 98) (k := 0) (v := .ref 269) trivial (by decide +kernel) (by exact (ev_l1 e3 (by decide) (by decide))) ?_
              refine ev_r_getI (pc := 99) (y := 47) (ci := 3) (f := 9) (fin := 0) (by decide +kernel) (by decide +kernel) (by exact ev_ob_269) rfl ?_
              intro x23 hx23
              refine ev_r_iload (pc := 102) (k := 4) (v := Int32.ofInt a3) (by decide +kernel) (by exact (ev_lk_st1 e7 (by decide) rfl)) ?_
              refine ev_r_iast (pc := 104) ha3 hx23 (by decide +kernel) (by exact ev_ab_279) ?_
              intro s24
              refine ev_r_aload_n (pc := 105) (k := 0) (v := .ref 269) trivial (by decide +kernel) (by exact (ev_l1 e3 (by decide) (by decide))) ?_
              refine ev_r_getC (pc := 106) (y := 18) (ci := 3) (f := 1) (fin := 1) (k' := 272) (by decide +kernel) (by decide +kernel) (by exact ev_ob_269) rfl rfl ?_
              refine ev_r_getC (pc := 109) (y := 81) (ci := 10) (f := 0) (fin := 2) (k' := 273) (by decide +kernel) (by decide +kernel) (by exact ev_ob_272) rfl rfl ?_
              refine ev_r_iload_n (pc := 112) (k := 3) (v := Int32.ofInt a2) (by decide +kernel) (by exact (ev_l1 e6 (by decide) (by decide))) ?_
              refine ev_r_aload_n (pc := 113) (k := 0) (v := .ref 269) trivial (by decide +kernel) (by exact (ev_l1 e3 (by decide) (by decide))) ?_
              refine ev_r_getC (pc := 114) (y := 40) (ci := 3) (f := 8) (fin := 1) (k' := 280) (by decide +kernel) (by decide +kernel) (by exact ev_ob_269) rfl rfl ?_
              refine ev_r_aload_n (pc := 117) (k := 0) (v := .ref 269) trivial (by decide +kernel) (by exact (ev_l1 e3 (by decide) (by decide))) ?_
              refine ev_r_getI (pc := 118) (y := 51) (ci := 3) (f := 10) (fin := 0) (by decide +kernel) (by decide +kernel) (by exact ev_ob_269) rfl ?_
              intro x25 hx25
              refine ev_r_iload (pc := 121) (k := 4) (v := Int32.ofInt a3) (by decide +kernel) (by exact (ev_lk_st1 e7 (by decide) rfl)) ?_
              refine ev_r_copyI (pc := 123) (y := 90) ⟨ha2, hx25, ha3⟩ (by decide +kernel) (by decide +kernel) (by (try simp only [ev_sum, ev_nv_cat]); first | done | rfl) (by exact ev_ab_273) (by exact ev_ab_280) ?_
              intro s26
              refine ev_r_aload_n (pc := 126) (k := 0) (v := .ref 269) trivial (by decide +kernel) (by exact (ev_l1 e3 (by decide) (by decide))) ?_
              refine ev_r_dup (pc := 127) rfl (by decide +kernel) ?_
              refine ev_r_getI (pc := 128) (y := 47) (ci := 3) (f := 9) (fin := 0) (by decide +kernel) (by decide +kernel) (by exact ev_ob_269) rfl ?_
              intro x27 hx27
              refine ev_r_iconst (pc := 131) (k := 1) (by decide +kernel) ?_
              refine ev_r_iadd (pc := 132) (by decide +kernel) ?_
              intro x28 hx28
              refine ev_r_putI (pc := 133) (y := 47) (ci := 3) (f := 9) hx28 (by decide +kernel) (by decide +kernel) (by exact ev_ob_269) rfl rfl ?_
              intro s29
              refine ev_r_aload_n (pc := 136) (k := 0) (v := .ref 269) trivial (by decide +kernel) (by exact (ev_l1 e3 (by decide) (by decide))) ?_
              refine ev_r_dup (pc := 137) rfl (by decide +kernel) ?_
              refine ev_r_getI (pc := 138) (y := 51) (ci := 3) (f := 10) (fin := 0) (by decide +kernel) (by decide +kernel) (by exact ev_ob_269) rfl ?_
              intro x30 hx30
              refine ev_r_iload (pc := 141) (k := 4) (v := Int32.ofInt a3) (by decide +kernel) (by exact (ev_lk_st1 e7 (by decide) rfl)) ?_
              refine ev_r_iadd (pc := 143) (by decide +kernel) ?_
              intro x31 hx31
              refine ev_r_putI (pc := 144) (y := 51) (ci := 3) (f := 10) hx31 (by decide +kernel) (by decide +kernel) (by exact ev_ob_269) rfl rfl ?_
              intro s32
              exact ev_r_return (pc := 147) (x := ()) trivial (by decide +kernel) (by decide +kernel) rfl
            · intro c18
              exact ev_r_return (pc := 73) (x := ()) trivial (by decide +kernel) (by decide +kernel) rfl
  · intro K29 hK29
    refine ev_r_jn (Q := fun K => ∀ (s39 : ev_St) (w33 : List (Nat × Value)), ev_lk w33 0 = some (.ref 269) → ev_lk w33 1 = some (.int (Int32.ofInt a0)) → ev_lk w33 2 = some (.int (Int32.ofInt a1)) → ev_lk w33 3 = some (.int (Int32.ofInt a2)) → ev_lk w33 4 = some (.int (Int32.ofInt a3)) → ev_w none (ev_Mof 46) d 28 w33 [] s39 (K  s39) ev_eU ev_PU) ?_ ?_
    · intro  s39 w33 e34 e35 e36 e37 e38
      refine ev_r_iconst (pc := 28) (k := 0) (by decide +kernel) ?_
      exact hK29 0 (by decide) s39 _ (by exact e34) (by exact e35) (by exact e36) (by exact e37) (by exact e38)
    · intro K28 hK28
      refine ev_r_if (pc := 1) (q := .lt) (o := 27) (t := 28) (c := a2 < 0) (by decide +kernel) (ev_k_lt ha2 ev_rng0) (by decide +kernel) ?_ ?_
      · intro c40
        exact hK28  S _ (by rfl) (by rfl) (by rfl) (by rfl) (by rfl)
      · intro c40
        refine ev_r_iload (pc := 4) (k := 4) (v := Int32.ofInt a3) (by decide +kernel) (by rfl) ?_
        refine ev_r_if (pc := 6) (q := .lt) (o := 22) (t := 28) (c := a3 < 0) (by decide +kernel) (ev_k_lt ha3 ev_rng0) (by decide +kernel) ?_ ?_
        · intro c41
          exact hK28  S _ (by rfl) (by rfl) (by rfl) (by rfl) (by rfl)
        · intro c41
          refine ev_r_iload_n (pc := 9) (k := 3) (v := Int32.ofInt a2) (by decide +kernel) (by rfl) ?_
          refine ev_r_iload (pc := 10) (k := 4) (v := Int32.ofInt a3) (by decide +kernel) (by rfl) ?_
          refine ev_r_iadd (pc := 12) (by decide +kernel) ?_
          intro x42 hx42
          refine ev_r_aload_n (pc := 13) (k := 0) (v := .ref 269) trivial (by decide +kernel) (by rfl) ?_
          refine ev_r_getC (pc := 14) (y := 18) (ci := 3) (f := 1) (fin := 1) (k' := 272) (by decide +kernel) (by decide +kernel) (by exact ev_ob_269) rfl rfl ?_
          refine ev_r_getC (pc := 17) (y := 81) (ci := 10) (f := 0) (fin := 2) (k' := 273) (by decide +kernel) (by decide +kernel) (by exact ev_ob_272) rfl rfl ?_
          refine ev_r_alen (pc := 20) (kd := 1) (ty := .int) (Or.inl rfl) (by decide +kernel) (by exact ev_ab_273) ?_
          intro x43 hx43
          refine ev_r_icmp (pc := 21) (q := .gt) (o := 7) (t := 28) (c := x43 < x42) (by decide +kernel) (ev_k_gt hx42 hx43) (by decide +kernel) ?_ ?_
          · intro c44
            exact hK28  S _ (by rfl) (by rfl) (by rfl) (by rfl) (by rfl)
          · intro c44
            refine ev_r_iconst (pc := 24) (k := 1) (by decide +kernel) ?_
            refine ev_r_goto (pc := 25) (o := 4) (t := 29) (by decide +kernel) (by decide +kernel) ?_
            exact hK29 1 (by decide) S _ (by rfl) (by rfl) (by rfl) (by rfl) (by rfl)
def jb_45_17 (Q : Nat)   (K17 : Int → Int → ev_St → Option ((Unit) × ev_St)) (x4 : Int) (x5 : Int) (s10 : ev_St) : Option ((Unit) × ev_St) := if x5 < 0 then (some ((), s10)) else (ev_if ((0 : Int) ≤ x5 ∧ x5 < (ev_aln 276 : Int)) (ev_b (s10.1 276 (Int.toNat x5)) fun x12 => ev_ck (x4 - x12) fun x13 => ev_if ((0 : Int) ≤ x5 ∧ x5 < (ev_aln 276 : Int)) (ev_b (s10.1 276 (Int.toNat x5)) fun x14 => ev_if ((0 : Int) ≤ x5 ∧ x5 < (ev_aln 275 : Int)) (ev_b (s10.1 275 (Int.toNat x5)) fun x15 => ev_if ((0 : Int) ≤ x5 ∧ x5 < (ev_aln 274 : Int)) (ev_b (s10.1 274 (Int.toNat x5)) fun x16 => ev_ck (x15 - x16) fun x17 => ev_if ((0 : Int) ≤ x5 ∧ x5 < (ev_aln 274 : Int)) (ev_b (s10.1 274 (Int.toNat x5)) fun x18 => ev_bd (jm_154 Q 270 x18 x17 ((273 + 1)) x14 x13 s10) fun _ s19 => ev_if ((0 : Int) ≤ x5 ∧ x5 < (ev_aln 274 : Int)) (ev_b (s19.1 274 (Int.toNat x5)) fun x20 => ev_bd (jm_46 Q x20 x17 x14 x13 s19) fun _ s21 => ev_ck (x5 + (-1)) fun x22 => K17 x14 x22 s21)))))))
def jl_45_17 (Q : Nat)   : Nat → Int → Int → ev_St → Option ((Unit) × ev_St)
  | 0 => fun _ _ _ => none
  | q + 1 => jb_45_17 Q   (jl_45_17 Q   q)
theorem jbt_45_17 (d : Nat) (hd : 2 ≤ d + 1) (Q : Nat)     (K17 : Int → Int → ev_St → Option ((Unit) × ev_St)) (hK17 : ∀ (x4 : Int) (hx4 : ev_rng x4), ∀ (x5 : Int) (hx5 : ev_rng x5), ∀ (s10 : ev_St) (w6 : List (Nat × Value)), ev_lk w6 0 = some (.ref 269) → ev_lk w6 2 = some (.int (Int32.ofInt x4)) → ev_lk w6 3 = some (.int (Int32.ofInt x5)) → ev_w none (ev_Mof 45) d 17 w6 [] s10 (K17 x4 x5 s10) ev_eU ev_PU) : ∀ (x4 : Int) (hx4 : ev_rng x4), ∀ (x5 : Int) (hx5 : ev_rng x5), ∀ (s10 : ev_St) (w6 : List (Nat × Value)), ev_lk w6 0 = some (.ref 269) → ev_lk w6 2 = some (.int (Int32.ofInt x4)) → ev_lk w6 3 = some (.int (Int32.ofInt x5)) → ev_w none (ev_Mof 45) d 17 w6 [] s10 (jb_45_17 Q   K17 x4 x5 s10) ev_eU ev_PU := by
  intro x4 hx4 x5 hx5 s10 w6 e7 e8 e9
  unfold jb_45_17
  refine ev_r_iload_n (pc := 17) (k := 3) (v := Int32.ofInt x5) (by decide +kernel) (by exact e9) ?_
  refine ev_r_if (pc := 18) (q := .lt) (o := 81) (t := 99) (c := x5 < 0) (by decide +kernel) (ev_k_lt hx5 ev_rng0) (by decide +kernel) ?_ ?_
  · intro c11
    exact ev_r_return (pc := 99) (x := ()) trivial (by decide +kernel) (by decide +kernel) rfl
  · intro c11
    refine ev_r_iload_n (pc := 21) (k := 2) (v := Int32.ofInt x4) (by decide +kernel) (by exact e8) ?_
    refine ev_r_aload_n (pc := 22) (k := 0) (v := .ref 269) trivial (by decide +kernel) (by exact e7) ?_
    refine ev_r_getC (pc := 23) (y := 28) (ci := 3) (f := 4) (fin := 1) (k' := 276) (by decide +kernel) (by decide +kernel) (by exact ev_ob_269) rfl rfl ?_
    refine ev_r_iload_n (pc := 26) (k := 3) (v := Int32.ofInt x5) (by decide +kernel) (by exact e9) ?_
    refine ev_r_iald (pc := 27) hx5 (by decide +kernel) (by exact ev_ab_276) ?_
    intro x12 hx12
    refine ev_r_isub (pc := 28) (by decide +kernel) ?_
    intro x13 hx13
    refine ev_r_istore (pc := 29) (k := 4) (by decide +kernel) (by decide +kernel) rfl ?_
    refine ev_r_aload_n (pc := 31) (k := 0) (v := .ref 269) trivial (by decide +kernel) (by exact (ev_l1 e7 (by decide) (by decide))) ?_
    refine ev_r_getC (pc := 32) (y := 28) (ci := 3) (f := 4) (fin := 1) (k' := 276) (by decide +kernel) (by decide +kernel) (by exact ev_ob_269) rfl rfl ?_
    refine ev_r_iload_n (pc := 35) (k := 3) (v := Int32.ofInt x5) (by decide +kernel) (by exact (ev_lk_st1 e9 (by decide) rfl)) ?_
    refine ev_r_iald (pc := 36) hx5 (by decide +kernel) (by exact ev_ab_276) ?_
    intro x14 hx14
    refine ev_r_istore_n (pc := 37) (k := 2) (by decide +kernel) (by decide +kernel) rfl ?_
    refine ev_r_aload_n (pc := 38) (k := 0) (v := .ref 269) trivial (by decide +kernel) (by exact (ev_l1 (ev_l1 e7 (by decide) (by decide)) (by decide) (by decide))) ?_
    refine ev_r_getC (pc := 39) (y := 25) (ci := 3) (f := 3) (fin := 1) (k' := 275) (by decide +kernel) (by decide +kernel) (by exact ev_ob_269) rfl rfl ?_
    refine ev_r_iload_n (pc := 42) (k := 3) (v := Int32.ofInt x5) (by decide +kernel) (by exact (ev_l1 (ev_lk_st1 e9 (by decide) rfl) (by decide) (by decide))) ?_
    refine ev_r_iald (pc := 43) hx5 (by decide +kernel) (by exact ev_ab_275) ?_
    intro x15 hx15
    refine ev_r_aload_n (pc := 44) (k := 0) (v := .ref 269) trivial (by decide +kernel) (by exact (ev_l1 (ev_l1 e7 (by decide) (by decide)) (by decide) (by decide))) ?_
    refine ev_r_getC (pc := 45) (y := 21) (ci := 3) (f := 2) (fin := 1) (k' := 274) (by decide +kernel) (by decide +kernel) (by exact ev_ob_269) rfl rfl ?_
    refine ev_r_iload_n (pc := 48) (k := 3) (v := Int32.ofInt x5) (by decide +kernel) (by exact (ev_l1 (ev_lk_st1 e9 (by decide) rfl) (by decide) (by decide))) ?_
    refine ev_r_iald (pc := 49) hx5 (by decide +kernel) (by exact ev_ab_274) ?_
    intro x16 hx16
    refine ev_r_isub (pc := 50) (by decide +kernel) ?_
    intro x17 hx17
    refine ev_r_istore (pc := 51) (k := 5) (by decide +kernel) (by decide +kernel) rfl ?_
    refine ev_r_aload_n (pc := 53) (k := 0) (v := .ref 269) trivial (by decide +kernel) (by exact (ev_l1 (ev_l1 (ev_l1 e7 (by decide) (by decide)) (by decide) (by decide)) (by decide) (by decide))) ?_
    refine ev_r_getC (pc := 54) (y := 14) (ci := 3) (f := 0) (fin := 1) (k' := 270) (by decide +kernel) (by decide +kernel) (by exact ev_ob_269) rfl rfl ?_
    refine ev_r_aload_n (pc := 57) (k := 0) (v := .ref 269) trivial (by decide +kernel) (by exact (ev_l1 (ev_l1 (ev_l1 e7 (by decide) (by decide)) (by decide) (by decide)) (by decide) (by decide))) ?_
    refine ev_r_getC (pc := 58) (y := 21) (ci := 3) (f := 2) (fin := 1) (k' := 274) (by decide +kernel) (by decide +kernel) (by exact ev_ob_269) rfl rfl ?_
    refine ev_r_iload_n (pc := 61) (k := 3) (v := Int32.ofInt x5) (by decide +kernel) (by exact (ev_l1 (ev_l1 (ev_lk_st1 e9 (by decide) rfl) (by decide) (by decide)) (by decide) (by decide))) ?_
    refine ev_r_iald (pc := 62) hx5 (by decide +kernel) (by exact ev_ab_274) ?_
    intro x18 hx18
    refine ev_r_iload (pc := 63) (k := 5) (v := Int32.ofInt x17) (by decide +kernel) (by exact ev_lk_st1_self) ?_
    refine ev_r_aload_n (pc := 65) (k := 0) (v := .ref 269) trivial (by decide +kernel) (by exact (ev_l1 (ev_l1 (ev_l1 e7 (by decide) (by decide)) (by decide) (by decide)) (by decide) (by decide))) ?_
    refine ev_r_getC (pc := 66) (y := 18) (ci := 3) (f := 1) (fin := 1) (k' := 272) (by decide +kernel) (by decide +kernel) (by exact ev_ob_269) rfl rfl ?_
    refine ev_r_getC (pc := 69) (y := 81) (ci := 10) (f := 0) (fin := 2) (k' := 273) (by decide +kernel) (by decide +kernel) (by exact ev_ob_272) rfl rfl ?_
    refine ev_r_iload_n (pc := 72) (k := 2) (v := Int32.ofInt x14) (by decide +kernel) (by exact (ev_l1 ev_lk_st1_self (by decide) (by decide))) ?_
    refine ev_r_iload (pc := 73) (k := 4) (v := Int32.ofInt x13) (by decide +kernel) (by exact (ev_lk_st1 (ev_l1 ev_lk_st1_self (by decide) (by decide)) (by decide) rfl)) ?_
    refine ev_r_virt (pc := 75) (y := 82) (mi := 154) (na := 5) (k := 270) (as := [.int (Int32.ofInt x18), .int (Int32.ofInt x17), ev_nv ((273 + 1)), .int (Int32.ofInt x14), .int (Int32.ofInt x13)]) (rest := []) (encc := ev_oU) (Q := ev_PU) (fun x S1 h => jt_154 d (by omega) Q 270 x18 x17 ((273 + 1)) x14 x13 ev_ob_270 hx18 hx17 (by exact (Or.inr ev_ab_273)) hx14 hx13 s10 x S1 h) (by exact ev_ob_270) (by decide +kernel) (by decide +kernel) (by decide +kernel) (by decide +kernel) rfl (by (try simp only [ev_sum, ev_nv_cat]); first | done | rfl) ?_
    intro _ s19 _
    show ev_w _ _ _ _ _ [] _ _ _ _
    refine ev_r_aload_n (pc := 78) (k := 0) (v := .ref 269) trivial (by decide +kernel) (by exact (ev_l1 (ev_l1 (ev_l1 e7 (by decide) (by decide)) (by decide) (by decide)) (by decide) (by decide))) ?_
    refine ev_r_aload_n (pc := 79) (k := 0) (v := .ref 269) trivial (by decide +kernel) (by exact (ev_l1 (ev_l1 (ev_l1 e7 (by decide) (by decide)) (by decide) (by decide)) (by decide) (by decide))) ?_
    refine ev_r_getC (pc := 80) (y := 21) (ci := 3) (f := 2) (fin := 1) (k' := 274) (by decide +kernel) (by decide +kernel) (by exact ev_ob_269) rfl rfl ?_
    refine ev_r_iload_n (pc := 83) (k := 3) (v := Int32.ofInt x5) (by decide +kernel) (by exact (ev_l1 (ev_l1 (ev_lk_st1 e9 (by decide) rfl) (by decide) (by decide)) (by decide) (by decide))) ?_
    refine ev_r_iald (pc := 84) hx5 (by decide +kernel) (by exact ev_ab_274) ?_
    intro x20 hx20
    refine ev_r_iload (pc := 85) (k := 5) (v := Int32.ofInt x17) (by decide +kernel) (by exact ev_lk_st1_self) ?_
    refine ev_r_iload_n (pc := 87) (k := 2) (v := Int32.ofInt x14) (by decide +kernel) (by exact (ev_l1 ev_lk_st1_self (by decide) (by decide))) ?_
    refine ev_r_iload (pc := 88) (k := 4) (v := Int32.ofInt x13) (by decide +kernel) (by exact (ev_lk_st1 (ev_l1 ev_lk_st1_self (by decide) (by decide)) (by decide) rfl)) ?_
    refine ev_r_virt (pc := 90) (y := 86) (mi := 46) (na := 4) (k := 269) (as := [.int (Int32.ofInt x20), .int (Int32.ofInt x17), .int (Int32.ofInt x14), .int (Int32.ofInt x13)]) (rest := []) (encc := ev_oU) (Q := ev_PU) (fun x S1 h => jt_46 d (by omega) Q x20 x17 x14 x13 hx20 hx17 hx14 hx13 s19 x S1 h) (by exact ev_ob_269) (by decide +kernel) (by decide +kernel) (by decide +kernel) (by decide +kernel) rfl (by (try simp only [ev_sum, ev_nv_cat]); first | done | rfl) ?_
    intro _ s21 _
    show ev_w _ _ _ _ _ [] _ _ _ _
    refine ev_r_iinc (pc := 93) (k := 3) (c := -1) (x := x5) (by decide +kernel) (by decide +kernel) (by exact (ev_l1 (ev_l1 (ev_lk_st1 e9 (by decide) rfl) (by decide) (by decide)) (by decide) (by decide))) (fun _ => rfl) ?_
    intro x22 hx22
    refine ev_r_goto (pc := 96) (o := (-79)) (t := 17) (by decide +kernel) (by decide +kernel) ?_
    exact hK17 x14 hx14 x22 hx22 s21 _ (by exact (ev_l1 (ev_l1 (ev_l1 (ev_l1 e7 (by decide) (by decide)) (by decide) (by decide)) (by decide) (by decide)) (by decide) (by decide))) (by exact (ev_lk_st1 (ev_l1 ev_lk_st1_self (by decide) (by decide)) (by decide) rfl)) (by exact ev_lk_st1_self)
theorem jlt_45_17 (d : Nat) (hd : 2 ≤ d + 1) (Q : Nat)     : ∀ q : Nat, ∀ (x4 : Int) (hx4 : ev_rng x4), ∀ (x5 : Int) (hx5 : ev_rng x5), ∀ (s10 : ev_St) (w6 : List (Nat × Value)), ev_lk w6 0 = some (.ref 269) → ev_lk w6 2 = some (.int (Int32.ofInt x4)) → ev_lk w6 3 = some (.int (Int32.ofInt x5)) → ev_w none (ev_Mof 45) d 17 w6 [] s10 (jl_45_17 Q   q x4 x5 s10) ev_eU ev_PU := by
  intro q
  induction q with
  | zero =>
    intro x4 hx4 x5 hx5 s10 w6 e7 e8 e9
    exact ev_w_none
  | succ q ih => exact jbt_45_17 d hd Q     _ ih
/-- MendBench$Mender.addEdits(I)V -/
def jm_45 (Q : Nat) (a0 : Int) (S : ev_St) : Option ((Unit) × ev_St) := ev_b (S.1 272 1) fun x1 => ev_b (ev_imin a0 82) fun x2 => ev_ck (x2 - 1) fun x3 => jl_45_17 Q   Q x1 x3 S
theorem jt_45 (d : Nat) (hd : 2 ≤ d) (Q : Nat) (a0 : Int) (ha0 : ev_rng a0) (S : ev_St) (x : Unit) (S' : ev_St) (hJ : jm_45 Q a0 S = some (x, S')) : ev_Ref d 45 [.ref 269, .int (Int32.ofInt a0)] S (ev_eU x) S' (ev_PU x) := by
  obtain ⟨d, rfl⟩ : ∃ e, d = e + 1 := ⟨d - 1, by omega⟩
  refine ev_ref_of (P := ev_PU) (lv := [(0, .ref 269), (1, .int (Int32.ofInt a0))]) (by decide +kernel) (by (try simp only [ev_sum, ev_nv_cat]); first | done | rfl) (by (try simp only [lv_args, ev_nv_cat]); first | done | rfl) ?_ x S' hJ
  unfold jm_45
  refine ev_r_aload_n (pc := 0) (k := 0) (v := .ref 269) trivial (by decide +kernel) (by rfl) ?_
  refine ev_r_getC (pc := 1) (y := 18) (ci := 3) (f := 1) (fin := 1) (k' := 272) (by decide +kernel) (by decide +kernel) (by exact ev_ob_269) rfl rfl ?_
  refine ev_r_getI (pc := 4) (y := 54) (ci := 10) (f := 1) (fin := 0) (by decide +kernel) (by decide +kernel) (by exact ev_ob_272) rfl ?_
  intro x1 hx1
  refine ev_r_istore_n (pc := 7) (k := 2) (by decide +kernel) (by decide +kernel) rfl ?_
  refine ev_r_iload_n (pc := 8) (k := 1) (v := Int32.ofInt a0) (by decide +kernel) (by exact (ev_lk_st1 (by rfl) (by decide) rfl)) ?_
  refine ev_r_bipush (pc := 9) (k := 82) (by decide +kernel) (by decide +kernel) ?_
  refine ev_r_mm1 (pc := 11) (y := 75) (kd := 9) (Or.inl rfl) (by decide +kernel) (by decide +kernel) (by (try simp only [ev_sum, ev_nv_cat]); first | done | rfl) ?_
  intro x2 hx2
  refine ev_r_iconst (pc := 14) (k := 1) (by decide +kernel) ?_
  refine ev_r_isub (pc := 15) (by decide +kernel) ?_
  intro x3 hx3
  refine ev_r_istore_n (pc := 16) (k := 3) (by decide +kernel) (by decide +kernel) rfl ?_
  exact jlt_45_17 d hd Q     Q x1 hx1 x3 hx3 S _ (by exact (ev_l1 (ev_l1 (by rfl) (by decide) (by decide)) (by decide) (by decide))) (by exact (ev_lk_st1 ev_lk_st1_self (by decide) rfl)) (by exact ev_lk_st1_self)
def jb_44_26 (Q : Nat) (a0 : Nat) (a1 : Nat) (a2 : Nat) (a3 : Int)  (K26 : Int → Int → Int → Int → ev_St → Option ((Int) × ev_St)) (x3 : Int) (x4 : Int) (x5 : Int) (x6 : Int) (s17 : ev_St) : Option ((Int) × ev_St) := ev_jn (fun  (s22 : ev_St) => ev_b (s22.1 272 1) fun x23 => ev_ck (x5 + x23) fun x24 => if x24 ≤ 80 then (ev_bd (jm_45 Q x3 s22) fun _ s26 => some (x3, s26)) else (some ((-1), s22))) fun K179 => if a3 ≤ x6 then (K179  s17) else (if 82 ≤ x6 then (K179  s17) else (ev_b (s17.1 270 1) fun x29 => if x29 < x4 then (K179  s17) else (ev_if (a0 ≠ 0) (ev_bd (jm_115 Q a1 ((270 + 1)) x4 s17) fun x33 s32 => if x33 ≠ (-2) then (if 0 ≤ x33 then (ev_b (s32.1 272 1) fun x36 => ev_if ((0 : Int) ≤ x6 ∧ x6 < (ev_aln 276 : Int)) (ev_b (ev_pI s32 276 (Int.toNat x6) x36) fun s37 => ev_if (1000 ≠ 0) (ev_b (ev_idiv x33 1000) fun x38 => ev_if ((0 : Int) ≤ x6 ∧ x6 < (ev_aln 274 : Int)) (ev_b (ev_pI s37 274 (Int.toNat x6) x38) fun s39 => ev_if (1000 ≠ 0) (ev_b (ev_irem x33 1000) fun x40 => ev_if ((0 : Int) ≤ x6 ∧ x6 < (ev_aln 275 : Int)) (ev_b (ev_pI s39 275 (Int.toNat x6) x40) fun s41 => ev_ck (x3 + 1) fun x42 => ev_bd (jm_50 Q a2 a0 x42 s41) fun _ s43 => ev_if ((0 : Int) ≤ x6 ∧ x6 < (ev_aln 275 : Int)) (ev_b (s43.1 275 (Int.toNat x6)) fun x44 => ev_if ((0 : Int) ≤ x6 ∧ x6 < (ev_aln 274 : Int)) (ev_b (s43.1 274 (Int.toNat x6)) fun x45 => ev_ck (x44 - x45) fun x46 => ev_ck (x5 - x46) fun x47 => ev_b (s43.1 272 1) fun x48 => if x48 ≤ 80 then (ev_if (a0 ≠ 0) (ev_bd (jm_117 Q  s43) fun x52 s51 => ev_ck (x6 + 1) fun x53 => K26 x42 x52 x47 x53 s51)) else (some ((-1), s43)))))))))) else (K179  s32)) else (some ((-1), s32))))))
def jl_44_26 (Q : Nat) (a0 : Nat) (a1 : Nat) (a2 : Nat) (a3 : Int)  : Nat → Int → Int → Int → Int → ev_St → Option ((Int) × ev_St)
  | 0 => fun _ _ _ _ _ => none
  | q + 1 => jb_44_26 Q a0 a1 a2 a3  (jl_44_26 Q a0 a1 a2 a3  q)
theorem jbt_44_26 (d : Nat) (hd : 7 ≤ d + 1) (Q : Nat) (a0 : Nat) (a1 : Nat) (a2 : Nat) (a3 : Int) (ha0 : a0 = 0 ∨ ev_isOb (a0 - 1) 8 = true) (ha1 : a1 = 0 ∨ ev_isOb (a1 - 1) 5 = true) (ha2 : a2 = 0 ∨ ev_isOb (a2 - 1) 10 = true) (ha3 : ev_rng a3)   (K26 : Int → Int → Int → Int → ev_St → Option ((Int) × ev_St)) (hK26 : ∀ (x3 : Int) (hx3 : ev_rng x3), ∀ (x4 : Int) (hx4 : ev_rng x4), ∀ (x5 : Int) (hx5 : ev_rng x5), ∀ (x6 : Int) (hx6 : ev_rng x6), ∀ (s17 : ev_St) (w7 : List (Nat × Value)), ev_lk w7 0 = some (.ref 269) → ev_lk w7 1 = some (ev_nv a0) → ev_lk w7 2 = some (ev_nv a1) → ev_lk w7 3 = some (ev_nv a2) → ev_lk w7 4 = some (.int (Int32.ofInt a3)) → ev_lk w7 5 = some (.int (Int32.ofInt x3)) → ev_lk w7 6 = some (.int (Int32.ofInt x4)) → ev_lk w7 7 = some (.int (Int32.ofInt x5)) → ev_lk w7 8 = some (.int (Int32.ofInt x6)) → ev_w none (ev_Mof 44) d 26 w7 [] s17 (K26 x3 x4 x5 x6 s17) ev_eI ev_rng) : ∀ (x3 : Int) (hx3 : ev_rng x3), ∀ (x4 : Int) (hx4 : ev_rng x4), ∀ (x5 : Int) (hx5 : ev_rng x5), ∀ (x6 : Int) (hx6 : ev_rng x6), ∀ (s17 : ev_St) (w7 : List (Nat × Value)), ev_lk w7 0 = some (.ref 269) → ev_lk w7 1 = some (ev_nv a0) → ev_lk w7 2 = some (ev_nv a1) → ev_lk w7 3 = some (ev_nv a2) → ev_lk w7 4 = some (.int (Int32.ofInt a3)) → ev_lk w7 5 = some (.int (Int32.ofInt x3)) → ev_lk w7 6 = some (.int (Int32.ofInt x4)) → ev_lk w7 7 = some (.int (Int32.ofInt x5)) → ev_lk w7 8 = some (.int (Int32.ofInt x6)) → ev_w none (ev_Mof 44) d 26 w7 [] s17 (jb_44_26 Q a0 a1 a2 a3  K26 x3 x4 x5 x6 s17) ev_eI ev_rng := by
  intro x3 hx3 x4 hx4 x5 hx5 x6 hx6 s17 w7 e8 e9 e10 e11 e12 e13 e14 e15 e16
  unfold jb_44_26
  refine ev_r_iload (pc := 26) (k := 8) (v := Int32.ofInt x6) (by decide +kernel) (by exact e16) ?_
  refine ev_r_iload (pc := 28) (k := 4) (v := Int32.ofInt a3) (by decide +kernel) (by exact e12) ?_
  refine ev_r_jn (Q := fun K => ∀ (s22 : ev_St) (w18 : List (Nat × Value)), ev_lk w18 0 = some (.ref 269) → ev_lk w18 5 = some (.int (Int32.ofInt x3)) → ev_lk w18 7 = some (.int (Int32.ofInt x5)) → ev_w none (ev_Mof 44) d 179 w18 [] s22 (K  s22) ev_eI ev_rng) ?_ ?_
  · intro  s22 w18 e19 e20 e21
    refine ev_r_iload (pc := 179) (k := 7) (v := Int32.ofInt x5) (by decide +kernel) (by exact e21) ?_
    refine ev_r_aload_n (pc := 181) (k := 0) (v := .ref 269) trivial (by decide +kernel) (by exact e19) ?_
    refine ev_r_getC (pc := 182) (y := 18) (ci := 3) (f := 1) (fin := 1) (k' := 272) (by decide +kernel) (by decide +kernel) (by exact ev_ob_269) rfl rfl ?_
    refine ev_r_getI (pc := 185) (y := 54) (ci := 10) (f := 1) (fin := 0) (by decide +kernel) (by decide +kernel) (by exact ev_ob_272) rfl ?_
    intro x23 hx23
    refine ev_r_iadd (pc := 188) (by decide +kernel) ?_
    intro x24 hx24
    refine ev_r_bipush (pc := 189) (k := 80) (by decide +kernel) (by decide +kernel) ?_
    refine ev_r_icmp (pc := 191) (q := .le) (o := 5) (t := 196) (c := x24 ≤ 80) (by decide +kernel) (ev_k_le hx24 (by decide)) (by decide +kernel) ?_ ?_
    · intro c25
      refine ev_r_aload_n (pc := 196) (k := 0) (v := .ref 269) trivial (by decide +kernel) (by exact e19) ?_
      refine ev_r_iload (pc := 197) (k := 5) (v := Int32.ofInt x3) (by decide +kernel) (by exact e20) ?_
      refine ev_r_virt (pc := 199) (y := 71) (mi := 45) (na := 1) (k := 269) (as := [.int (Int32.ofInt x3)]) (rest := []) (encc := ev_oU) (Q := ev_PU) (fun x S1 h => jt_45 d (by omega) Q x3 hx3 s22 x S1 h) (by exact ev_ob_269) (by decide +kernel) (by decide +kernel) (by decide +kernel) (by decide +kernel) rfl (by (try simp only [ev_sum, ev_nv_cat]); first | done | rfl) ?_
      intro _ s26 _
      show ev_w _ _ _ _ _ [] _ _ _ _
      refine ev_r_iload (pc := 202) (k := 5) (v := Int32.ofInt x3) (by decide +kernel) (by exact e20) ?_
      exact ev_r_ireturn (pc := 204) (x := x3) (v := Int32.ofInt x3) (ty := .int) hx3 (by decide +kernel) (by decide +kernel) rfl rfl
    · intro c25
      refine ev_r_iconst (pc := 194) (k := -1) (by decide +kernel) ?_
      exact ev_r_ireturn (pc := 195) (x := (-1)) (v := Int32.ofInt ((-1))) (ty := .int) (by decide) (by decide +kernel) (by decide +kernel) rfl rfl
  · intro K179 hK179
    refine ev_r_icmp (pc := 30) (q := .ge) (o := 149) (t := 179) (c := a3 ≤ x6) (by decide +kernel) (ev_k_ge hx6 ha3) (by decide +kernel) ?_ ?_
    · intro c27
      exact hK179  s17 _ (by exact e8) (by exact e13) (by exact e15)
    · intro c27
      refine ev_r_iload (pc := 33) (k := 8) (v := Int32.ofInt x6) (by decide +kernel) (by exact e16) ?_
      refine ev_r_bipush (pc := 35) (k := 82) (by decide +kernel) (by decide +kernel) ?_
      refine ev_r_icmp (pc := 37) (q := .ge) (o := 142) (t := 179) (c := 82 ≤ x6) (by decide +kernel) (ev_k_ge hx6 (by decide)) (by decide +kernel) ?_ ?_
      · intro c28
        exact hK179  s17 _ (by exact e8) (by exact e13) (by exact e15)
      · intro c28
        refine ev_r_iload (pc := 40) (k := 6) (v := Int32.ofInt x4) (by decide +kernel) (by exact e14) ?_
        refine ev_r_aload_n (pc := 42) (k := 0) (v := .ref 269) trivial (by decide +kernel) (by exact e8) ?_
        refine ev_r_getC (pc := 43) (y := 14) (ci := 3) (f := 0) (fin := 1) (k' := 270) (by decide +kernel) (by decide +kernel) (by exact ev_ob_269) rfl rfl ?_
        refine ev_r_getI (pc := 46) (y := 54) (ci := 10) (f := 1) (fin := 0) (by decide +kernel) (by decide +kernel) (by exact ev_ob_270) rfl ?_
        intro x29 hx29
        refine ev_r_icmp (pc := 49) (q := .gt) (o := 130) (t := 179) (c := x29 < x4) (by decide +kernel) (ev_k_gt hx4 hx29) (by decide +kernel) ?_ ?_
        · intro c30
          exact hK179  s17 _ (by exact e8) (by exact e13) (by exact e15)
        · intro c30
          refine ev_r_aload_n (pc := 52) (k := 1) (v := ev_nv a0) (ev_isR_nv _) (by decide +kernel) (by exact e9) ?_
          refine ev_r_aload_n (pc := 53) (k := 2) (v := ev_nv a1) (ev_isR_nv _) (by decide +kernel) (by exact e10) ?_
          refine ev_r_aload_n (pc := 54) (k := 0) (v := .ref 269) trivial (by decide +kernel) (by exact e8) ?_
          refine ev_r_getC (pc := 55) (y := 14) (ci := 3) (f := 0) (fin := 1) (k' := 270) (by decide +kernel) (by decide +kernel) (by exact ev_ob_269) rfl rfl ?_
          refine ev_r_iload (pc := 58) (k := 6) (v := Int32.ofInt x4) (by decide +kernel) (by exact e14) ?_
          refine ev_r_chk ?_
          intro c31
          refine ev_r_dr2 (r := a0) (k := 281) (fun v => [.int (Int32.ofInt x4), .ref 270, ev_nv a1, v]) c31 (ev_on_8 (ha0.resolve_left c31)) ?_
          refine ev_r_virt (pc := 60) (y := 57) (mi := 115) (na := 3) (k := 281) (as := [ev_nv a1, ev_nv ((270 + 1)), .int (Int32.ofInt x4)]) (rest := []) (encc := ev_oI) (Q := ev_rng) (fun x S1 h => jt_115 d (by omega) Q a1 ((270 + 1)) x4 (by exact ha1) (by exact (Or.inr ev_ob_270)) hx4 s17 x S1 h) (by exact ev_ob_281) (by decide +kernel) (by decide +kernel) (by decide +kernel) (by decide +kernel) rfl (by (try simp only [ev_sum, ev_nv_cat]); first | done | rfl) ?_
          intro x33 s32 hx33
          show ev_w _ _ _ _ _ [.int (Int32.ofInt x33)] _ _ _ _
          refine ev_r_istore (pc := 63) (k := 9) (by decide +kernel) (by decide +kernel) rfl ?_
          refine ev_r_iload (pc := 65) (k := 9) (v := Int32.ofInt x33) (by decide +kernel) (by exact ev_lk_st1_self) ?_
          refine ev_r_bipush (pc := 67) (k := -2) (by decide +kernel) (by decide +kernel) ?_
          refine ev_r_icmp (pc := 69) (q := .ne) (o := 5) (t := 74) (c := x33 ≠ (-2)) (by decide +kernel) (ev_k_ne hx33 (by decide)) (by decide +kernel) ?_ ?_
          · intro c34
            refine ev_r_iload (pc := 74) (k := 9) (v := Int32.ofInt x33) (by decide +kernel) (by exact ev_lk_st1_self) ?_
            refine ev_r_if (pc := 76) (q := .ge) (o := 6) (t := 82) (c := 0 ≤ x33) (by decide +kernel) (ev_k_ge hx33 ev_rng0) (by decide +kernel) ?_ ?_
            · intro c35
              refine ev_r_aload_n (pc := 82) (k := 0) (v := .ref 269) trivial (by decide +kernel) (by exact (ev_l1 e8 (by decide) (by decide))) ?_
              refine ev_r_getC (pc := 83) (y := 28) (ci := 3) (f := 4) (fin := 1) (k' := 276) (by decide +kernel) (by decide +kernel) (by exact ev_ob_269) rfl rfl ?_
              refine ev_r_iload (pc := 86) (k := 8) (v := Int32.ofInt x6) (by decide +kernel) (by exact (ev_lk_st1 e16 (by decide) rfl)) ?_
              refine ev_r_aload_n (pc := 88) (k := 0) (v := .ref 269) trivial (by decide +kernel) (by exact (ev_l1 e8 (by decide) (by decide))) ?_
              refine ev_r_getC (pc := 89) (y := 18) (ci := 3) (f := 1) (fin := 1) (k' := 272) (by decide +kernel) (by decide +kernel) (by exact ev_ob_269) rfl rfl ?_
              refine ev_r_getI (pc := 92) (y := 54) (ci := 10) (f := 1) (fin := 0) (by decide +kernel) (by decide +kernel) (by exact ev_ob_272) rfl ?_
              intro x36 hx36
              refine ev_r_iast (pc := 95) hx36 hx6 (by decide +kernel) (by exact ev_ab_276) ?_
              intro s37
              refine ev_r_aload_n (pc := 96) (k := 0) (v := .ref 269) trivial (by decide +kernel) (by exact (ev_l1 e8 (by decide) (by decide))) ?_
              refine ev_r_getC (pc := 97) (y := 21) (ci := 3) (f := 2) (fin := 1) (k' := 274) (by decide +kernel) (by decide +kernel) (by exact ev_ob_269) rfl rfl ?_
              refine ev_r_iload (pc := 100) (k := 8) (v := Int32.ofInt x6) (by decide +kernel) (by exact (ev_lk_st1 e16 (by decide) rfl)) ?_
              refine ev_r_iload (pc := 102) (k := 9) (v := Int32.ofInt x33) (by decide +kernel) (by exact ev_lk_st1_self) ?_
              refine ev_r_sipush (pc := 104) (k := 1000) (by decide +kernel) (by decide +kernel) ?_
              refine ev_r_idiv (pc := 107) (by decide) (by decide +kernel) ?_
              intro x38 hx38
              refine ev_r_iast (pc := 108) hx38 hx6 (by decide +kernel) (by exact ev_ab_274) ?_
              intro s39
              refine ev_r_aload_n (pc := 109) (k := 0) (v := .ref 269) trivial (by decide +kernel) (by exact (ev_l1 e8 (by decide) (by decide))) ?_
              refine ev_r_getC (pc := 110) (y := 25) (ci := 3) (f := 3) (fin := 1) (k' := 275) (by decide +kernel) (by decide +kernel) (by exact ev_ob_269) rfl rfl ?_
              refine ev_r_iload (pc := 113) (k := 8) (v := Int32.ofInt x6) (by decide +kernel) (by exact (ev_lk_st1 e16 (by decide) rfl)) ?_
              refine ev_r_iload (pc := 115) (k := 9) (v := Int32.ofInt x33) (by decide +kernel) (by exact ev_lk_st1_self) ?_
              refine ev_r_sipush (pc := 117) (k := 1000) (by decide +kernel) (by decide +kernel) ?_
              refine ev_r_irem (pc := 120) (by decide) (by decide +kernel) ?_
              intro x40 hx40
              refine ev_r_iast (pc := 121) hx40 hx6 (by decide +kernel) (by exact ev_ab_275) ?_
              intro s41
              refine ev_r_iinc (pc := 122) (k := 5) (c := 1) (x := x3) (by decide +kernel) (by decide +kernel) (by exact (ev_l1 e13 (by decide) (by decide))) (fun _ => rfl) ?_
              intro x42 hx42
              refine ev_r_aload_n (pc := 125) (k := 0) (v := .ref 269) trivial (by decide +kernel) (by exact (ev_l1 (ev_l1 e8 (by decide) (by decide)) (by decide) (by decide))) ?_
              refine ev_r_aload_n (pc := 126) (k := 3) (v := ev_nv a2) (ev_isR_nv _) (by decide +kernel) (by exact (ev_l1 (ev_l1 e11 (by decide) (by decide)) (by decide) (by decide))) ?_
              refine ev_r_aload_n (pc := 127) (k := 1) (v := ev_nv a0) (ev_isR_nv _) (by decide +kernel) (by exact (ev_l1 (ev_l1 e9 (by decide) (by decide)) (by decide) (by decide))) ?_
              refine ev_r_iload (pc := 128) (k := 5) (v := Int32.ofInt x42) (by decide +kernel) (by exact ev_lk_st1_self) ?_
              refine ev_r_virt (pc := 130) (y := 63) (mi := 50) (na := 3) (k := 269) (as := [ev_nv a2, ev_nv a0, .int (Int32.ofInt x42)]) (rest := []) (encc := ev_oU) (Q := ev_PU) (fun x S1 h => jt_50 d (by omega) Q a2 a0 x42 (by exact ha2) (by exact ha0) hx42 s41 x S1 h) (by exact ev_ob_269) (by decide +kernel) (by decide +kernel) (by decide +kernel) (by decide +kernel) rfl (by (try simp only [ev_sum, ev_nv_cat]); first | done | rfl) ?_
              intro _ s43 _
              show ev_w _ _ _ _ _ [] _ _ _ _
              refine ev_r_iload (pc := 133) (k := 7) (v := Int32.ofInt x5) (by decide +kernel) (by exact (ev_l1 (ev_l1 e15 (by decide) (by decide)) (by decide) (by decide))) ?_
              refine ev_r_aload_n (pc := 135) (k := 0) (v := .ref 269) trivial (by decide +kernel) (by exact (ev_l1 (ev_l1 e8 (by decide) (by decide)) (by decide) (by decide))) ?_
              refine ev_r_getC (pc := 136) (y := 25) (ci := 3) (f := 3) (fin := 1) (k' := 275) (by decide +kernel) (by decide +kernel) (by exact ev_ob_269) rfl rfl ?_
              refine ev_r_iload (pc := 139) (k := 8) (v := Int32.ofInt x6) (by decide +kernel) (by exact (ev_l1 (ev_lk_st1 e16 (by decide) rfl) (by decide) (by decide))) ?_
              refine ev_r_iald (pc := 141) hx6 (by decide +kernel) (by exact ev_ab_275) ?_
              intro x44 hx44
              refine ev_r_aload_n (pc := 142) (k := 0) (v := .ref 269) trivial (by decide +kernel) (by exact (ev_l1 (ev_l1 e8 (by decide) (by decide)) (by decide) (by decide))) ?_
              refine ev_r_getC (pc := 143) (y := 21) (ci := 3) (f := 2) (fin := 1) (k' := 274) (by decide +kernel) (by decide +kernel) (by exact ev_ob_269) rfl rfl ?_
              refine ev_r_iload (pc := 146) (k := 8) (v := Int32.ofInt x6) (by decide +kernel) (by exact (ev_l1 (ev_lk_st1 e16 (by decide) rfl) (by decide) (by decide))) ?_
              refine ev_r_iald (pc := 148) hx6 (by decide +kernel) (by exact ev_ab_274) ?_
              intro x45 hx45
              refine ev_r_isub (pc := 149) (by decide +kernel) ?_
              intro x46 hx46
              refine ev_r_isub (pc := 150) (by decide +kernel) ?_
              intro x47 hx47
              refine ev_r_istore (pc := 151) (k := 7) (by decide +kernel) (by decide +kernel) rfl ?_
              refine ev_r_aload_n (pc := 153) (k := 0) (v := .ref 269) trivial (by decide +kernel) (by exact (ev_l1 (ev_l1 (ev_l1 e8 (by decide) (by decide)) (by decide) (by decide)) (by decide) (by decide))) ?_
              refine ev_r_getC (pc := 154) (y := 18) (ci := 3) (f := 1) (fin := 1) (k' := 272) (by decide +kernel) (by decide +kernel) (by exact ev_ob_269) rfl rfl ?_
              refine ev_r_getI (pc := 157) (y := 54) (ci := 10) (f := 1) (fin := 0) (by decide +kernel) (by decide +kernel) (by exact ev_ob_272) rfl ?_
              intro x48 hx48
              refine ev_r_bipush (pc := 160) (k := 80) (by decide +kernel) (by decide +kernel) ?_
              refine ev_r_icmp (pc := 162) (q := .le) (o := 5) (t := 167) (c := x48 ≤ 80) (by decide +kernel) (ev_k_le hx48 (by decide)) (by decide +kernel) ?_ ?_
              · intro c49
                refine ev_r_aload_n (pc := 167) (k := 1) (v := ev_nv a0) (ev_isR_nv _) (by decide +kernel) (by exact (ev_l1 (ev_l1 (ev_l1 e9 (by decide) (by decide)) (by decide) (by decide)) (by decide) (by decide))) ?_
                refine ev_r_chk ?_
                intro c50
                refine ev_r_dr2 (r := a0) (k := 281) (fun v => [v]) c50 (ev_on_8 (ha0.resolve_left c50)) ?_
                refine ev_r_virt (pc := 168) (y := 67) (mi := 117) (na := 0) (k := 281) (as := []) (rest := []) (encc := ev_oI) (Q := ev_rng) (fun x S1 h => jt_117 d (by omega) Q   s43 x S1 h) (by exact ev_ob_281) (by decide +kernel) (by decide +kernel) (by decide +kernel) (by decide +kernel) rfl (by (try simp only [ev_sum, ev_nv_cat]); first | done | rfl) ?_
                intro x52 s51 hx52
                show ev_w _ _ _ _ _ [.int (Int32.ofInt x52)] _ _ _ _
                refine ev_r_istore (pc := 171) (k := 6) (by decide +kernel) (by decide +kernel) rfl ?_
                refine ev_r_iinc (pc := 173) (k := 8) (c := 1) (x := x6) (by decide +kernel) (by decide +kernel) (by exact (ev_l1 (ev_l1 (ev_l1 (ev_lk_st1 e16 (by decide) rfl) (by decide) (by decide)) (by decide) (by decide)) (by decide) (by decide))) (fun _ => rfl) ?_
                intro x53 hx53
                refine ev_r_goto (pc := 176) (o := (-150)) (t := 26) (by decide +kernel) (by decide +kernel) ?_
                exact hK26 x42 hx42 x52 hx52 x47 hx47 x53 hx53 s51 _ (by exact (ev_l1 (ev_l1 (ev_l1 (ev_l1 (ev_l1 e8 (by decide) (by decide)) (by decide) (by decide)) (by decide) (by decide)) (by decide) (by decide)) (by decide) (by decide))) (by exact (ev_l1 (ev_l1 (ev_l1 (ev_l1 (ev_l1 e9 (by decide) (by decide)) (by decide) (by decide)) (by decide) (by decide)) (by decide) (by decide)) (by decide) (by decide))) (by exact (ev_l1 (ev_l1 (ev_l1 (ev_l1 (ev_l1 e10 (by decide) (by decide)) (by decide) (by decide)) (by decide) (by decide)) (by decide) (by decide)) (by decide) (by decide))) (by exact (ev_l1 (ev_l1 (ev_l1 (ev_l1 (ev_l1 e11 (by decide) (by decide)) (by decide) (by decide)) (by decide) (by decide)) (by decide) (by decide)) (by decide) (by decide))) (by exact (ev_l1 (ev_l1 (ev_l1 (ev_lk_st1 (ev_l1 e12 (by decide) (by decide)) (by decide) rfl) (by decide) (by decide)) (by decide) (by decide)) (by decide) (by decide))) (by exact (ev_l1 (ev_lk_st1 (ev_l1 ev_lk_st1_self (by decide) (by decide)) (by decide) rfl) (by decide) (by decide))) (by exact (ev_l1 ev_lk_st1_self (by decide) (by decide))) (by exact (ev_lk_st1 (ev_l1 ev_lk_st1_self (by decide) (by decide)) (by decide) rfl)) (by exact ev_lk_st1_self)
              · intro c49
                refine ev_r_iconst (pc := 165) (k := -1) (by decide +kernel) ?_
                exact ev_r_ireturn (pc := 166) (x := (-1)) (v := Int32.ofInt ((-1))) (ty := .int) (by decide) (by decide +kernel) (by decide +kernel) rfl rfl
            · intro c35
              refine ev_r_goto (pc := 79) (o := 100) (t := 179) (by decide +kernel) (by decide +kernel) ?_
              exact hK179  s32 _ (by exact (ev_l1 e8 (by decide) (by decide))) (by exact (ev_l1 e13 (by decide) (by decide))) (by exact (ev_l1 e15 (by decide) (by decide)))
          · intro c34
            refine ev_r_iconst (pc := 72) (k := -1) (by decide +kernel) ?_
            exact ev_r_ireturn (pc := 73) (x := (-1)) (v := Int32.ofInt ((-1))) (ty := .int) (by decide) (by decide +kernel) (by decide +kernel) rfl rfl
theorem jlt_44_26 (d : Nat) (hd : 7 ≤ d + 1) (Q : Nat) (a0 : Nat) (a1 : Nat) (a2 : Nat) (a3 : Int) (ha0 : a0 = 0 ∨ ev_isOb (a0 - 1) 8 = true) (ha1 : a1 = 0 ∨ ev_isOb (a1 - 1) 5 = true) (ha2 : a2 = 0 ∨ ev_isOb (a2 - 1) 10 = true) (ha3 : ev_rng a3)   : ∀ q : Nat, ∀ (x3 : Int) (hx3 : ev_rng x3), ∀ (x4 : Int) (hx4 : ev_rng x4), ∀ (x5 : Int) (hx5 : ev_rng x5), ∀ (x6 : Int) (hx6 : ev_rng x6), ∀ (s17 : ev_St) (w7 : List (Nat × Value)), ev_lk w7 0 = some (.ref 269) → ev_lk w7 1 = some (ev_nv a0) → ev_lk w7 2 = some (ev_nv a1) → ev_lk w7 3 = some (ev_nv a2) → ev_lk w7 4 = some (.int (Int32.ofInt a3)) → ev_lk w7 5 = some (.int (Int32.ofInt x3)) → ev_lk w7 6 = some (.int (Int32.ofInt x4)) → ev_lk w7 7 = some (.int (Int32.ofInt x5)) → ev_lk w7 8 = some (.int (Int32.ofInt x6)) → ev_w none (ev_Mof 44) d 26 w7 [] s17 (jl_44_26 Q a0 a1 a2 a3  q x3 x4 x5 x6 s17) ev_eI ev_rng := by
  intro q
  induction q with
  | zero =>
    intro x3 hx3 x4 hx4 x5 hx5 x6 hx6 s17 w7 e8 e9 e10 e11 e12 e13 e14 e15 e16
    exact ev_w_none
  | succ q ih => exact jbt_44_26 d hd Q a0 a1 a2 a3 ha0 ha1 ha2 ha3   _ ih
/-- MendBench$Mender.prepare(LMendBench$Search;LMendBench$Pattern;LMendBench$Text;I)I -/
def jm_44 (Q : Nat) (a0 : Nat) (a1 : Nat) (a2 : Nat) (a3 : Int) (S : ev_St) : Option ((Int) × ev_St) := ev_b (ev_pI S 272 1 0) fun s1 => ev_b (s1.1 270 1) fun x2 => jl_44_26 Q a0 a1 a2 a3  Q 0 0 x2 0 s1
theorem jt_44 (d : Nat) (hd : 7 ≤ d) (Q : Nat) (a0 : Nat) (a1 : Nat) (a2 : Nat) (a3 : Int) (ha0 : a0 = 0 ∨ ev_isOb (a0 - 1) 8 = true) (ha1 : a1 = 0 ∨ ev_isOb (a1 - 1) 5 = true) (ha2 : a2 = 0 ∨ ev_isOb (a2 - 1) 10 = true) (ha3 : ev_rng a3) (S : ev_St) (x : Int) (S' : ev_St) (hJ : jm_44 Q a0 a1 a2 a3 S = some (x, S')) : ev_Ref d 44 [.ref 269, ev_nv a0, ev_nv a1, ev_nv a2, .int (Int32.ofInt a3)] S (ev_eI x) S' (ev_rng x) := by
  obtain ⟨d, rfl⟩ : ∃ e, d = e + 1 := ⟨d - 1, by omega⟩
  refine ev_ref_of (P := ev_rng) (lv := [(0, .ref 269), (1, ev_nv a0), (2, ev_nv a1), (3, ev_nv a2), (4, .int (Int32.ofInt a3))]) (by decide +kernel) (by (try simp only [ev_sum, ev_nv_cat]); first | done | rfl) (by (try simp only [lv_args, ev_nv_cat]); first | done | rfl) ?_ x S' hJ
  unfold jm_44
  refine ev_r_aload_n (pc := 0) (k := 0) (v := .ref 269) trivial (by decide +kernel) (by rfl) ?_
  refine ev_r_getC (pc := 1) (y := 18) (ci := 3) (f := 1) (fin := 1) (k' := 272) (by decide +kernel) (by decide +kernel) (by exact ev_ob_269) rfl rfl ?_
  refine ev_r_iconst (pc := 4) (k := 0) (by decide +kernel) ?_
  refine ev_r_putI (pc := 5) (y := 54) (ci := 10) (f := 1) (by decide) (by decide +kernel) (by decide +kernel) (by exact ev_ob_272) rfl rfl ?_
  intro s1
  refine ev_r_iconst (pc := 8) (k := 0) (by decide +kernel) ?_
  refine ev_r_istore (pc := 9) (k := 5) (by decide +kernel) (by decide +kernel) rfl ?_
  refine ev_r_iconst (pc := 11) (k := 0) (by decide +kernel) ?_
  refine ev_r_istore (pc := 12) (k := 6) (by decide +kernel) (by decide +kernel) rfl ?_
  refine ev_r_aload_n (pc := 14) (k := 0) (v := .ref 269) trivial (by decide +kernel) (by exact (ev_l1 (ev_l1 (by rfl) (by decide) (by decide)) (by decide) (by decide))) ?_
  refine ev_r_getC (pc := 15) (y := 14) (ci := 3) (f := 0) (fin := 1) (k' := 270) (by decide +kernel) (by decide +kernel) (by exact ev_ob_269) rfl rfl ?_
  refine ev_r_getI (pc := 18) (y := 54) (ci := 10) (f := 1) (fin := 0) (by decide +kernel) (by decide +kernel) (by exact ev_ob_270) rfl ?_
  intro x2 hx2
  refine ev_r_istore (pc := 21) (k := 7) (by decide +kernel) (by decide +kernel) rfl ?_
  refine ev_r_iconst (pc := 23) (k := 0) (by decide +kernel) ?_
  refine ev_r_istore (pc := 24) (k := 8) (by decide +kernel) (by decide +kernel) rfl ?_
  exact jlt_44_26 d hd Q a0 a1 a2 a3 ha0 ha1 ha2 ha3   Q 0 (by decide) 0 (by decide) x2 hx2 0 (by decide) s1 _ (by exact (ev_l1 (ev_l1 (ev_l1 (ev_l1 (by rfl) (by decide) (by decide)) (by decide) (by decide)) (by decide) (by decide)) (by decide) (by decide))) (by exact (ev_l1 (ev_l1 (ev_l1 (ev_l1 (by rfl) (by decide) (by decide)) (by decide) (by decide)) (by decide) (by decide)) (by decide) (by decide))) (by exact (ev_l1 (ev_l1 (ev_l1 (ev_l1 (by rfl) (by decide) (by decide)) (by decide) (by decide)) (by decide) (by decide)) (by decide) (by decide))) (by exact (ev_l1 (ev_l1 (ev_l1 (ev_l1 (by rfl) (by decide) (by decide)) (by decide) (by decide)) (by decide) (by decide)) (by decide) (by decide))) (by exact (ev_l1 (ev_l1 (ev_l1 (ev_lk_st1 (by rfl) (by decide) rfl) (by decide) (by decide)) (by decide) (by decide)) (by decide) (by decide))) (by exact (ev_l1 (ev_l1 (ev_lk_st1 ev_lk_st1_self (by decide) rfl) (by decide) (by decide)) (by decide) (by decide))) (by exact (ev_l1 (ev_lk_st1 ev_lk_st1_self (by decide) rfl) (by decide) (by decide))) (by exact (ev_lk_st1 ev_lk_st1_self (by decide) rfl)) (by exact ev_lk_st1_self)
def jb_48_6 (Q : Nat) (a0 : Nat)  (K6 : Int → Int → ev_St → Option ((Int) × ev_St)) (x1 : Int) (x2 : Int) (s7 : ev_St) : Option ((Int) × ev_St) := ev_if (a0 ≠ 0) (ev_b (s7.1 ((a0 - 1)) 1) fun x9 => if x9 ≤ x2 then (if x1 ≠ 0 then (some (0, s7)) else (some (1, s7))) else (ev_jn (fun (x14 : Int) (x13 : Int) (r12 : Nat) (s19 : ev_St) => ev_bd (jm_49 Q r12 x13 x14 s19) fun x21 s20 => ev_if (a0 ≠ 0) (ev_bd (jm_151 Q ((a0 - 1)) x2 s20) fun x24 s23 => if x21 < 1 then (some (0, s23)) else (ev_jn (fun  (s32 : ev_St) => ev_jn (fun (x33 : Int) (s38 : ev_St) => ev_ck (x2 + x21) fun x39 => K6 x33 x39 s38) fun K93 => if x24 ≠ 63 then (ev_jn (fun  (s45 : ev_St) => K93 0 s45) fun K77 => if x1 = 0 then (K77  s32) else (if x24 ≠ 125 then (if x24 ≠ 124 then (K93 x1 s32) else (K93 2 s32)) else (K77  s32))) else (K93 1 s32)) fun K55 => if x24 ≠ 124 then (K55  s23) else (if x1 ≠ 2 then (K55  s23) else (some (0, s23)))))) fun K25 => if x1 ≤ 0 then (K25 0 x2 a0 s7) else (K25 1 x2 a0 s7)))
def jl_48_6 (Q : Nat) (a0 : Nat)  : Nat → Int → Int → ev_St → Option ((Int) × ev_St)
  | 0 => fun _ _ _ => none
  | q + 1 => jb_48_6 Q a0  (jl_48_6 Q a0  q)
theorem jbt_48_6 (d : Nat) (hd : 3 ≤ d + 1) (Q : Nat) (a0 : Nat) (ha0 : a0 = 0 ∨ ev_isOb (a0 - 1) 10 = true)   (K6 : Int → Int → ev_St → Option ((Int) × ev_St)) (hK6 : ∀ (x1 : Int) (hx1 : ev_rng x1), ∀ (x2 : Int) (hx2 : ev_rng x2), ∀ (s7 : ev_St) (w3 : List (Nat × Value)), ev_lk w3 0 = some (ev_nv a0) → ev_lk w3 1 = some (.int (Int32.ofInt x1)) → ev_lk w3 3 = some (.int (Int32.ofInt x2)) → ev_w none (ev_Mof 48) d 6 w3 [] s7 (K6 x1 x2 s7) ev_eI ev_bl) : ∀ (x1 : Int) (hx1 : ev_rng x1), ∀ (x2 : Int) (hx2 : ev_rng x2), ∀ (s7 : ev_St) (w3 : List (Nat × Value)), ev_lk w3 0 = some (ev_nv a0) → ev_lk w3 1 = some (.int (Int32.ofInt x1)) → ev_lk w3 3 = some (.int (Int32.ofInt x2)) → ev_w none (ev_Mof 48) d 6 w3 [] s7 (jb_48_6 Q a0  K6 x1 x2 s7) ev_eI ev_bl := by
  intro x1 hx1 x2 hx2 s7 w3 e4 e5 e6
  unfold jb_48_6
  refine ev_r_iload_n (pc := 6) (k := 3) (v := Int32.ofInt x2) (by decide +kernel) (by exact e6) ?_
  refine ev_r_aload_n (pc := 7) (k := 0) (v := ev_nv a0) (ev_isR_nv _) (by decide +kernel) (by exact e4) ?_
  refine ev_r_chk ?_
  intro c8
  refine ev_r_dr (r := a0) (fun v => [v, .int (Int32.ofInt x2)]) c8 ?_
  refine ev_r_getI (pc := 8) (y := 54) (ci := 10) (f := 1) (fin := 0) (by decide +kernel) (by decide +kernel) (by exact (ha0.resolve_left c8)) rfl ?_
  intro x9 hx9
  refine ev_r_icmp (pc := 11) (q := .ge) (o := 90) (t := 101) (c := x9 ≤ x2) (by decide +kernel) (ev_k_ge hx2 hx9) (by decide +kernel) ?_ ?_
  · intro c10
    refine ev_r_iload_n (pc := 101) (k := 1) (v := Int32.ofInt x1) (by decide +kernel) (by exact e5) ?_
    refine ev_r_if (pc := 102) (q := .ne) (o := 7) (t := 109) (c := x1 ≠ 0) (by decide +kernel) (ev_k_ne hx1 ev_rng0) (by decide +kernel) ?_ ?_
    · intro c11
      refine ev_r_iconst (pc := 109) (k := 0) (by decide +kernel) ?_
      exact ev_r_ireturn (pc := 110) (x := 0) (v := Int32.ofInt 0) (ty := .boolean) (by decide : ev_bl 0) (by decide +kernel) (by decide +kernel) (ev_ret_bl (by decide : ev_bl 0)) rfl
    · intro c11
      refine ev_r_iconst (pc := 105) (k := 1) (by decide +kernel) ?_
      refine ev_r_goto (pc := 106) (o := 4) (t := 110) (by decide +kernel) (by decide +kernel) ?_
      exact ev_r_ireturn (pc := 110) (x := 1) (v := Int32.ofInt 1) (ty := .boolean) (by decide : ev_bl 1) (by decide +kernel) (by decide +kernel) (ev_ret_bl (by decide : ev_bl 1)) rfl
  · intro c10
    refine ev_r_aload_n (pc := 14) (k := 0) (v := ev_nv a0) (ev_isR_nv _) (by decide +kernel) (by exact e4) ?_
    refine ev_r_iload_n (pc := 15) (k := 3) (v := Int32.ofInt x2) (by decide +kernel) (by exact e6) ?_
    refine ev_r_iload_n (pc := 16) (k := 1) (v := Int32.ofInt x1) (by decide +kernel) (by exact e5) ?_
    refine ev_r_jn (Q := fun K => ∀ (x14 : Int) (hx14 : ev_rng x14), ∀ (x13 : Int) (hx13 : ev_rng x13), ∀ (r12 : Nat) (hr12 : r12 = 0 ∨ ev_isOb (r12 - 1) 10 = true), ∀ (s19 : ev_St) (w15 : List (Nat × Value)), ev_lk w15 0 = some (ev_nv a0) → ev_lk w15 1 = some (.int (Int32.ofInt x1)) → ev_lk w15 3 = some (.int (Int32.ofInt x2)) → ev_w none (ev_Mof 48) d 25 w15 [.int (Int32.ofInt x14), .int (Int32.ofInt x13), ev_nv r12] s19 (K x14 x13 r12 s19) ev_eI ev_bl) ?_ ?_
    · intro x14 hx14 x13 hx13 r12 hr12 s19 w15 e16 e17 e18
      refine ev_r_stat (pc := 25) (y := 105) (kind := 2) (mi := 49) (na := 3) (as := [ev_nv r12, .int (Int32.ofInt x13), .int (Int32.ofInt x14)]) (rest := []) (encc := ev_oI) (Q := ev_rng) (fun x S1 h => jt_49 d (by omega) Q r12 x13 x14 (by exact hr12) hx13 hx14 s19 x S1 h) (Or.inl rfl) (by decide +kernel) (by decide +kernel) (by decide +kernel) (by decide +kernel) rfl (by (try simp only [ev_sum, ev_nv_cat]); first | done | rfl) ?_
      intro x21 s20 hx21
      show ev_w _ _ _ _ _ [.int (Int32.ofInt x21)] _ _ _ _
      refine ev_r_istore_n (pc := 28) (k := 2) (by decide +kernel) (by decide +kernel) rfl ?_
      refine ev_r_aload_n (pc := 29) (k := 0) (v := ev_nv a0) (ev_isR_nv _) (by decide +kernel) (by exact (ev_l1 e16 (by decide) (by decide))) ?_
      refine ev_r_iload_n (pc := 30) (k := 3) (v := Int32.ofInt x2) (by decide +kernel) (by exact (ev_l1 e18 (by decide) (by decide))) ?_
      refine ev_r_chk ?_
      intro c22
      refine ev_r_dr (r := a0) (fun v => [.int (Int32.ofInt x2), v]) c22 ?_
      refine ev_r_virt (pc := 31) (y := 109) (mi := 151) (na := 1) (k := (a0 - 1)) (as := [.int (Int32.ofInt x2)]) (rest := []) (encc := ev_oI) (Q := ev_rng) (fun x S1 h => jt_151 d (by omega) Q ((a0 - 1)) x2 (ha0.resolve_left c22) hx2 s20 x S1 h) (by exact (ha0.resolve_left c22)) (by decide +kernel) (by decide +kernel) (by decide +kernel) (by decide +kernel) rfl (by (try simp only [ev_sum, ev_nv_cat]); first | done | rfl) ?_
      intro x24 s23 hx24
      show ev_w _ _ _ _ _ [.int (Int32.ofInt x24)] _ _ _ _
      refine ev_r_istore (pc := 34) (k := 4) (by decide +kernel) (by decide +kernel) rfl ?_
      refine ev_r_iload_n (pc := 36) (k := 2) (v := Int32.ofInt x21) (by decide +kernel) (by exact (ev_l1 ev_lk_st1_self (by decide) (by decide))) ?_
      refine ev_r_iconst (pc := 37) (k := 1) (by decide +kernel) ?_
      refine ev_r_icmp (pc := 38) (q := .lt) (o := 15) (t := 53) (c := x21 < 1) (by decide +kernel) (ev_k_lt hx21 (by decide)) (by decide +kernel) ?_ ?_
      · intro c25
        refine ev_r_iconst (pc := 53) (k := 0) (by decide +kernel) ?_
        exact ev_r_ireturn (pc := 54) (x := 0) (v := Int32.ofInt 0) (ty := .boolean) (by decide : ev_bl 0) (by decide +kernel) (by decide +kernel) (ev_ret_bl (by decide : ev_bl 0)) rfl
      · intro c25
        refine ev_r_iload (pc := 41) (k := 4) (v := Int32.ofInt x24) (by decide +kernel) (by exact ev_lk_st1_self) ?_
        refine ev_r_bipush (pc := 43) (k := 124) (by decide +kernel) (by decide +kernel) ?_
        refine ev_r_jn (Q := fun K => ∀ (s32 : ev_St) (w26 : List (Nat × Value)), ev_lk w26 0 = some (ev_nv a0) → ev_lk w26 1 = some (.int (Int32.ofInt x1)) → ev_lk w26 2 = some (.int (Int32.ofInt x21)) → ev_lk w26 3 = some (.int (Int32.ofInt x2)) → ev_lk w26 4 = some (.int (Int32.ofInt x24)) → ev_w none (ev_Mof 48) d 55 w26 [] s32 (K  s32) ev_eI ev_bl) ?_ ?_
        · intro  s32 w26 e27 e28 e29 e30 e31
          refine ev_r_iload (pc := 55) (k := 4) (v := Int32.ofInt x24) (by decide +kernel) (by exact e31) ?_
          refine ev_r_bipush (pc := 57) (k := 63) (by decide +kernel) (by decide +kernel) ?_
          refine ev_r_jn (Q := fun K => ∀ (x33 : Int) (hx33 : ev_rng x33), ∀ (s38 : ev_St) (w34 : List (Nat × Value)), ev_lk w34 0 = some (ev_nv a0) → ev_lk w34 2 = some (.int (Int32.ofInt x21)) → ev_lk w34 3 = some (.int (Int32.ofInt x2)) → ev_w none (ev_Mof 48) d 93 w34 [.int (Int32.ofInt x33)] s38 (K x33 s38) ev_eI ev_bl) ?_ ?_
          · intro x33 hx33 s38 w34 e35 e36 e37
            refine ev_r_istore_n (pc := 93) (k := 1) (by decide +kernel) (by decide +kernel) rfl ?_
            refine ev_r_iload_n (pc := 94) (k := 3) (v := Int32.ofInt x2) (by decide +kernel) (by exact (ev_l1 e37 (by decide) (by decide))) ?_
            refine ev_r_iload_n (pc := 95) (k := 2) (v := Int32.ofInt x21) (by decide +kernel) (by exact (ev_l1 e36 (by decide) (by decide))) ?_
            refine ev_r_iadd (pc := 96) (by decide +kernel) ?_
            intro x39 hx39
            refine ev_r_istore_n (pc := 97) (k := 3) (by decide +kernel) (by decide +kernel) rfl ?_
            refine ev_r_goto (pc := 98) (o := (-92)) (t := 6) (by decide +kernel) (by decide +kernel) ?_
            exact hK6 x33 hx33 x39 hx39 s38 _ (by exact (ev_l1 (ev_lk_st1 e35 (by decide) (ev_nv_cat _)) (by decide) (by decide))) (by exact (ev_l1 ev_lk_st1_self (by decide) (by decide))) (by exact ev_lk_st1_self)
          · intro K93 hK93
            refine ev_r_icmp (pc := 59) (q := .ne) (o := 7) (t := 66) (c := x24 ≠ 63) (by decide +kernel) (ev_k_ne hx24 (by decide)) (by decide +kernel) ?_ ?_
            · intro c40
              refine ev_r_iload_n (pc := 66) (k := 1) (v := Int32.ofInt x1) (by decide +kernel) (by exact e28) ?_
              refine ev_r_jn (Q := fun K => ∀ (s45 : ev_St) (w41 : List (Nat × Value)), ev_lk w41 0 = some (ev_nv a0) → ev_lk w41 2 = some (.int (Int32.ofInt x21)) → ev_lk w41 3 = some (.int (Int32.ofInt x2)) → ev_w none (ev_Mof 48) d 77 w41 [] s45 (K  s45) ev_eI ev_bl) ?_ ?_
              · intro  s45 w41 e42 e43 e44
                refine ev_r_iconst (pc := 77) (k := 0) (by decide +kernel) ?_
                refine ev_r_goto (pc := 78) (o := 15) (t := 93) (by decide +kernel) (by decide +kernel) ?_
                exact hK93 0 (by decide) s45 _ (by exact e42) (by exact e43) (by exact e44)
              · intro K77 hK77
                refine ev_r_if (pc := 67) (q := .eq) (o := 10) (t := 77) (c := x1 = 0) (by decide +kernel) (ev_k_eq hx1 ev_rng0) (by decide +kernel) ?_ ?_
                · intro c46
                  exact hK77  s32 _ (by exact e27) (by exact e29) (by exact e30)
                · intro c46
                  refine ev_r_iload (pc := 70) (k := 4) (v := Int32.ofInt x24) (by decide +kernel) (by exact e31) ?_
                  refine ev_r_bipush (pc := 72) (k := 125) (by decide +kernel) (by decide +kernel) ?_
                  refine ev_r_icmp (pc := 74) (q := .ne) (o := 7) (t := 81) (c := x24 ≠ 125) (by decide +kernel) (ev_k_ne hx24 (by decide)) (by decide +kernel) ?_ ?_
                  · intro c47
                    refine ev_r_iload (pc := 81) (k := 4) (v := Int32.ofInt x24) (by decide +kernel) (by exact e31) ?_
                    refine ev_r_bipush (pc := 83) (k := 124) (by decide +kernel) (by decide +kernel) ?_
                    refine ev_r_icmp (pc := 85) (q := .ne) (o := 7) (t := 92) (c := x24 ≠ 124) (by decide +kernel) (ev_k_ne hx24 (by decide)) (by decide +kernel) ?_ ?_
                    · intro c48
                      refine ev_r_iload_n (pc := 92) (k := 1) (v := Int32.ofInt x1) (by decide +kernel) (by exact e28) ?_
                      exact hK93 x1 hx1 s32 _ (by exact e27) (by exact e29) (by exact e30)
                    · intro c48
                      refine ev_r_iconst (pc := 88) (k := 2) (by decide +kernel) ?_
                      refine ev_r_goto (pc := 89) (o := 4) (t := 93) (by decide +kernel) (by decide +kernel) ?_
                      exact hK93 2 (by decide) s32 _ (by exact e27) (by exact e29) (by exact e30)
                  · intro c47
                    exact hK77  s32 _ (by exact e27) (by exact e29) (by exact e30)
            · intro c40
              refine ev_r_iconst (pc := 62) (k := 1) (by decide +kernel) ?_
              refine ev_r_goto (pc := 63) (o := 30) (t := 93) (by decide +kernel) (by decide +kernel) ?_
              exact hK93 1 (by decide) s32 _ (by exact e27) (by exact e29) (by exact e30)
        · intro K55 hK55
          refine ev_r_icmp (pc := 45) (q := .ne) (o := 10) (t := 55) (c := x24 ≠ 124) (by decide +kernel) (ev_k_ne hx24 (by decide)) (by decide +kernel) ?_ ?_
          · intro c49
            exact hK55  s23 _ (by exact (ev_l1 (ev_l1 e16 (by decide) (by decide)) (by decide) (by decide))) (by exact (ev_l1 (ev_lk_st1 e17 (by decide) rfl) (by decide) (by decide))) (by exact (ev_l1 ev_lk_st1_self (by decide) (by decide))) (by exact (ev_lk_st1 (ev_l1 e18 (by decide) (by decide)) (by decide) rfl)) (by exact ev_lk_st1_self)
          · intro c49
            refine ev_r_iload_n (pc := 48) (k := 1) (v := Int32.ofInt x1) (by decide +kernel) (by exact (ev_l1 (ev_lk_st1 e17 (by decide) rfl) (by decide) (by decide))) ?_
            refine ev_r_iconst (pc := 49) (k := 2) (by decide +kernel) ?_
            refine ev_r_icmp (pc := 50) (q := .ne) (o := 5) (t := 55) (c := x1 ≠ 2) (by decide +kernel) (ev_k_ne hx1 (by decide)) (by decide +kernel) ?_ ?_
            · intro c50
              exact hK55  s23 _ (by exact (ev_l1 (ev_l1 e16 (by decide) (by decide)) (by decide) (by decide))) (by exact (ev_l1 (ev_lk_st1 e17 (by decide) rfl) (by decide) (by decide))) (by exact (ev_l1 ev_lk_st1_self (by decide) (by decide))) (by exact (ev_lk_st1 (ev_l1 e18 (by decide) (by decide)) (by decide) rfl)) (by exact ev_lk_st1_self)
            · intro c50
              refine ev_r_iconst (pc := 53) (k := 0) (by decide +kernel) ?_
              exact ev_r_ireturn (pc := 54) (x := 0) (v := Int32.ofInt 0) (ty := .boolean) (by decide : ev_bl 0) (by decide +kernel) (by decide +kernel) (ev_ret_bl (by decide : ev_bl 0)) rfl
    · intro K25 hK25
      refine ev_r_if (pc := 17) (q := .le) (o := 7) (t := 24) (c := x1 ≤ 0) (by decide +kernel) (ev_k_le hx1 ev_rng0) (by decide +kernel) ?_ ?_
      · intro c51
        refine ev_r_iconst (pc := 24) (k := 0) (by decide +kernel) ?_
        exact hK25 0 (by decide) x2 hx2 a0 ha0 s7 _ (by exact e4) (by exact e5) (by exact e6)
      · intro c51
        refine ev_r_iconst (pc := 20) (k := 1) (by decide +kernel) ?_
        refine ev_r_goto (pc := 21) (o := 4) (t := 25) (by decide +kernel) (by decide +kernel) ?_
        exact hK25 1 (by decide) x2 hx2 a0 ha0 s7 _ (by exact e4) (by exact e5) (by exact e6)
theorem jlt_48_6 (d : Nat) (hd : 3 ≤ d + 1) (Q : Nat) (a0 : Nat) (ha0 : a0 = 0 ∨ ev_isOb (a0 - 1) 10 = true)   : ∀ q : Nat, ∀ (x1 : Int) (hx1 : ev_rng x1), ∀ (x2 : Int) (hx2 : ev_rng x2), ∀ (s7 : ev_St) (w3 : List (Nat × Value)), ev_lk w3 0 = some (ev_nv a0) → ev_lk w3 1 = some (.int (Int32.ofInt x1)) → ev_lk w3 3 = some (.int (Int32.ofInt x2)) → ev_w none (ev_Mof 48) d 6 w3 [] s7 (jl_48_6 Q a0  q x1 x2 s7) ev_eI ev_bl := by
  intro q
  induction q with
  | zero =>
    intro x1 hx1 x2 hx2 s7 w3 e4 e5 e6
    exact ev_w_none
  | succ q ih => exact jbt_48_6 d hd Q a0 ha0   _ ih
/-- MendBench$Mender.isTemplate(LMendBench$Text;)Z -/
def jm_48 (Q : Nat) (a0 : Nat) (S : ev_St) : Option ((Int) × ev_St) := jl_48_6 Q a0  Q 0 0 S
theorem jt_48 (d : Nat) (hd : 3 ≤ d) (Q : Nat) (a0 : Nat) (ha0 : a0 = 0 ∨ ev_isOb (a0 - 1) 10 = true) (S : ev_St) (x : Int) (S' : ev_St) (hJ : jm_48 Q a0 S = some (x, S')) : ev_Ref d 48 [ev_nv a0] S (ev_eI x) S' (ev_bl x) := by
  obtain ⟨d, rfl⟩ : ∃ e, d = e + 1 := ⟨d - 1, by omega⟩
  refine ev_ref_of (P := ev_bl) (lv := [(0, ev_nv a0)]) (by decide +kernel) (by (try simp only [ev_sum, ev_nv_cat]); first | done | rfl) (by (try simp only [lv_args, ev_nv_cat]); first | done | rfl) ?_ x S' hJ
  unfold jm_48
  refine ev_r_iconst (pc := 0) (k := 0) (by decide +kernel) ?_
  refine ev_r_istore_n (pc := 1) (k := 1) (by decide +kernel) (by decide +kernel) rfl ?_
  refine ev_r_iconst (pc := 2) (k := 1) (by decide +kernel) ?_
  refine ev_r_istore_n (pc := 3) (k := 2) (by decide +kernel) (by decide +kernel) rfl ?_
  refine ev_r_iconst (pc := 4) (k := 0) (by decide +kernel) ?_
  refine ev_r_istore_n (pc := 5) (k := 3) (by decide +kernel) (by decide +kernel) rfl ?_
  exact jlt_48_6 d hd Q a0 ha0   Q 0 (by decide) 0 (by decide) S _ (by exact (ev_l1 (ev_l1 (ev_lk_st1 (by rfl) (by decide) (ev_nv_cat _)) (by decide) (by decide)) (by decide) (by decide))) (by exact (ev_l1 (ev_lk_st1 ev_lk_st1_self (by decide) rfl) (by decide) (by decide))) (by exact ev_lk_st1_self)
def jb_363_5 (Q : Nat) (a0 : Nat) (a1 : Int)  (K5 : Int → Int → ev_St → Option ((Unit) × ev_St)) (x3 : Int) (x4 : Int) (s10 : ev_St) : Option ((Unit) × ev_St) := if x4 ≤ x3 then (some ((), s10)) else (ev_if (a0 ≠ 0) (ev_if ((0 : Int) ≤ x3 ∧ x3 < (ev_aln ((a0 - 1)) : Int)) (ev_b (ev_pI s10 ((a0 - 1)) (Int.toNat x3) a1) fun s13 => ev_ck (x3 + 1) fun x14 => K5 x14 x4 s13)))
def jl_363_5 (Q : Nat) (a0 : Nat) (a1 : Int)  : Nat → Int → Int → ev_St → Option ((Unit) × ev_St)
  | 0 => fun _ _ _ => none
  | q + 1 => jb_363_5 Q a0 a1  (jl_363_5 Q a0 a1  q)
theorem jbt_363_5 (d : Nat) (hd : 1 ≤ d + 1) (Q : Nat) (a0 : Nat) (a1 : Int) (ha0 : a0 = 0 ∨ ev_isAb (a0 - 1) 1 .int = true) (ha1 : ev_rng a1)   (K5 : Int → Int → ev_St → Option ((Unit) × ev_St)) (hK5 : ∀ (x3 : Int) (hx3 : ev_rng x3), ∀ (x4 : Int) (hx4 : ev_rng x4), ∀ (s10 : ev_St) (w5 : List (Nat × Value)), ev_lk w5 0 = some (ev_nv a0) → ev_lk w5 1 = some (.int (Int32.ofInt a1)) → ev_lk w5 2 = some (.int (Int32.ofInt x3)) → ev_lk w5 3 = some (.int (Int32.ofInt x4)) → ev_w none (ev_Mof 363) d 5 w5 [] s10 (K5 x3 x4 s10) ev_eU ev_PU) : ∀ (x3 : Int) (hx3 : ev_rng x3), ∀ (x4 : Int) (hx4 : ev_rng x4), ∀ (s10 : ev_St) (w5 : List (Nat × Value)), ev_lk w5 0 = some (ev_nv a0) → ev_lk w5 1 = some (.int (Int32.ofInt a1)) → ev_lk w5 2 = some (.int (Int32.ofInt x3)) → ev_lk w5 3 = some (.int (Int32.ofInt x4)) → ev_w none (ev_Mof 363) d 5 w5 [] s10 (jb_363_5 Q a0 a1  K5 x3 x4 s10) ev_eU ev_PU := by
  intro x3 hx3 x4 hx4 s10 w5 e6 e7 e8 e9
  unfold jb_363_5
  refine ev_r_iload_n (pc := 5) (k := 2) (v := Int32.ofInt x3) (by decide +kernel) (by exact e8) ?_
  refine ev_r_iload_n (pc := 6) (k := 3) (v := Int32.ofInt x4) (by decide +kernel) (by exact e9) ?_
  refine ev_r_icmp (pc := 7) (q := .ge) (o := 13) (t := 20) (c := x4 ≤ x3) (by decide +kernel) (ev_k_ge hx3 hx4) (by decide +kernel) ?_ ?_
  · intro c11
    exact ev_r_return (pc := 20) (x := ()) trivial (by decide +kernel) (by decide +kernel) rfl
  · intro c11
    refine ev_r_aload_n (pc := 10) (k := 0) (v := ev_nv a0) (ev_isR_nv _) (by decide +kernel) (by exact e6) ?_
    refine ev_r_iload_n (pc := 11) (k := 2) (v := Int32.ofInt x3) (by decide +kernel) (by exact e8) ?_
    refine ev_r_iload_n (pc := 12) (k := 1) (v := Int32.ofInt a1) (by decide +kernel) (by exact e7) ?_
    refine ev_r_chk ?_
    intro c12
    refine ev_r_dr (r := a0) (fun v => [.int (Int32.ofInt a1), .int (Int32.ofInt x3), v]) c12 ?_
    refine ev_r_iast (pc := 13) ha1 hx3 (by decide +kernel) (by exact (ha0.resolve_left c12)) ?_
    intro s13
    refine ev_r_iinc (pc := 14) (k := 2) (c := 1) (x := x3) (by decide +kernel) (by decide +kernel) (by exact e8) (fun _ => rfl) ?_
    intro x14 hx14
    refine ev_r_goto (pc := 17) (o := (-12)) (t := 5) (by decide +kernel) (by decide +kernel) ?_
    exact hK5 x14 hx14 x4 hx4 s13 _ (by exact (ev_l1 e6 (by decide) (by decide))) (by exact (ev_lk_st1 e7 (by decide) rfl)) (by exact ev_lk_st1_self) (by exact (ev_l1 e9 (by decide) (by decide)))
theorem jlt_363_5 (d : Nat) (hd : 1 ≤ d + 1) (Q : Nat) (a0 : Nat) (a1 : Int) (ha0 : a0 = 0 ∨ ev_isAb (a0 - 1) 1 .int = true) (ha1 : ev_rng a1)   : ∀ q : Nat, ∀ (x3 : Int) (hx3 : ev_rng x3), ∀ (x4 : Int) (hx4 : ev_rng x4), ∀ (s10 : ev_St) (w5 : List (Nat × Value)), ev_lk w5 0 = some (ev_nv a0) → ev_lk w5 1 = some (.int (Int32.ofInt a1)) → ev_lk w5 2 = some (.int (Int32.ofInt x3)) → ev_lk w5 3 = some (.int (Int32.ofInt x4)) → ev_w none (ev_Mof 363) d 5 w5 [] s10 (jl_363_5 Q a0 a1  q x3 x4 s10) ev_eU ev_PU := by
  intro q
  induction q with
  | zero =>
    intro x3 hx3 x4 hx4 s10 w5 e6 e7 e8 e9
    exact ev_w_none
  | succ q ih => exact jbt_363_5 d hd Q a0 a1 ha0 ha1   _ ih
/-- java/util/Arrays.fill([II)V -/
def jm_363 (Q : Nat) (a0 : Nat) (a1 : Int) (S : ev_St) : Option ((Unit) × ev_St) := ev_if (a0 ≠ 0) (ev_b (ev_aln ((a0 - 1)) : Int) fun x2 => jl_363_5 Q a0 a1  Q 0 x2 S)
theorem jt_363 (d : Nat) (hd : 1 ≤ d) (Q : Nat) (a0 : Nat) (a1 : Int) (ha0 : a0 = 0 ∨ ev_isAb (a0 - 1) 1 .int = true) (ha1 : ev_rng a1) (S : ev_St) (x : Unit) (S' : ev_St) (hJ : jm_363 Q a0 a1 S = some (x, S')) : ev_Ref d 363 [ev_nv a0, .int (Int32.ofInt a1)] S (ev_eU x) S' (ev_PU x) := by
  obtain ⟨d, rfl⟩ : ∃ e, d = e + 1 := ⟨d - 1, by omega⟩
  refine ev_ref_of (P := ev_PU) (lv := [(0, ev_nv a0), (1, .int (Int32.ofInt a1))]) (by decide +kernel) (by (try simp only [ev_sum, ev_nv_cat]); first | done | rfl) (by (try simp only [lv_args, ev_nv_cat]); first | done | rfl) ?_ x S' hJ
  unfold jm_363
  refine ev_r_iconst (pc := 0) (k := 0) (by decide +kernel) ?_
  refine ev_r_istore_n (pc := 1) (k := 2) (by decide +kernel) (by decide +kernel) rfl ?_
  refine ev_r_aload_n (pc := 2) (k := 0) (v := ev_nv a0) (ev_isR_nv _) (by decide +kernel) (by exact (ev_l1 (by rfl) (by decide) (by decide))) ?_
  refine ev_r_chk ?_
  intro c1
  refine ev_r_dr (r := a0) (fun v => [v]) c1 ?_
  refine ev_r_alen (pc := 3) (kd := 1) (ty := .int) (Or.inl rfl) (by decide +kernel) (by exact (ha0.resolve_left c1)) ?_
  intro x2 hx2
  refine ev_r_istore_n (pc := 4) (k := 3) (by decide +kernel) (by decide +kernel) rfl ?_
  exact jlt_363_5 d hd Q a0 a1 ha0 ha1   Q 0 (by decide) x2 hx2 S _ (by exact (ev_l1 (ev_l1 (by rfl) (by decide) (by decide)) (by decide) (by decide))) (by exact (ev_l1 (ev_lk_st1 (by rfl) (by decide) rfl) (by decide) (by decide))) (by exact (ev_lk_st1 ev_lk_st1_self (by decide) rfl)) (by exact ev_lk_st1_self)
/-- MendBench$Pattern.restart()V -/
def jm_57 (Q : Nat) (k : Nat) (S : ev_St) : Option ((Unit) × ev_St) := ev_b (ev_pI S k 11 0) fun s1 => ev_b (ev_pI s1 k 12 0) fun s2 => ev_bd (jm_363 Q (((k + 11) + 1)) 0 s2) fun _ s3 => some ((), s3)
theorem jt_57 (d : Nat) (hd : 2 ≤ d) (Q : Nat) (k : Nat) (hk : ev_isOb k 5 = true) (S : ev_St) (x : Unit) (S' : ev_St) (hJ : jm_57 Q k S = some (x, S')) : ev_Ref d 57 [.ref k] S (ev_eU x) S' (ev_PU x) := by
  obtain ⟨d, rfl⟩ : ∃ e, d = e + 1 := ⟨d - 1, by omega⟩
  refine ev_ref_of (P := ev_PU) (lv := [(0, .ref k)]) (by decide +kernel) (by (try simp only [ev_sum, ev_nv_cat]); first | done | rfl) (by (try simp only [lv_args, ev_nv_cat]); first | done | rfl) ?_ x S' hJ
  unfold jm_57
  refine ev_r_aload_n (pc := 0) (k := 0) (v := .ref k) trivial (by decide +kernel) (by rfl) ?_
  refine ev_r_iconst (pc := 1) (k := 0) (by decide +kernel) ?_
  refine ev_r_putI (pc := 2) (y := 60) (ci := 5) (f := 11) (by decide) (by decide +kernel) (by decide +kernel) (by exact hk) rfl rfl ?_
  intro s1
  refine ev_r_aload_n (pc := 5) (k := 0) (v := .ref k) trivial (by decide +kernel) (by rfl) ?_
  refine ev_r_iconst (pc := 6) (k := 0) (by decide +kernel) ?_
  refine ev_r_putI (pc := 7) (y := 64) (ci := 5) (f := 12) (by decide) (by decide +kernel) (by decide +kernel) (by exact hk) rfl rfl ?_
  intro s2
  refine ev_r_aload_n (pc := 10) (k := 0) (v := .ref k) trivial (by decide +kernel) (by rfl) ?_
  refine ev_r_getC (pc := 11) (y := 43) (ci := 5) (f := 10) (fin := 1) (k' := (k + 11)) (by decide +kernel) (by decide +kernel) (by exact hk) rfl rfl ?_
  refine ev_r_iconst (pc := 14) (k := 0) (by decide +kernel) ?_
  refine ev_r_stat (pc := 15) (y := 67) (kind := 2) (mi := 363) (na := 2) (as := [ev_nv (((k + 11) + 1)), .int (Int32.ofInt 0)]) (rest := []) (encc := ev_oU) (Q := ev_PU) (fun x S1 h => jt_363 d (by omega) Q (((k + 11) + 1)) 0 (by exact (Or.inr (ev_fo_5_10 hk))) (by decide) s2 x S1 h) (Or.inl rfl) (by decide +kernel) (by decide +kernel) (by decide +kernel) (by decide +kernel) rfl (by (try simp only [ev_sum, ev_nv_cat]); first | done | rfl) ?_
  intro _ s3 _
  show ev_w _ _ _ _ _ [] _ _ _ _
  exact ev_r_return (pc := 18) (x := ()) trivial (by decide +kernel) (by decide +kernel) rfl
/-- MendBench$Pattern.add(III)I -/
def jm_58 (Q : Nat) (k : Nat) (a0 : Int) (a1 : Int) (a2 : Int) (S : ev_St) : Option ((Int) × ev_St) := ev_b (S.1 k 11) fun x1 => if x1 < 0 then (some ((-1), S)) else (ev_b (S.1 k 11) fun x3 => if x3 < 400 then (ev_b (S.1 k 11) fun x5 => ev_if ((0 : Int) ≤ x5 ∧ x5 < (ev_aln ((k + 1)) : Int)) (ev_b (ev_pI S ((k + 1)) (Int.toNat x5) a0) fun s6 => ev_b (s6.1 k 11) fun x7 => ev_if ((0 : Int) ≤ x7 ∧ x7 < (ev_aln ((k + 2)) : Int)) (ev_b (ev_pI s6 ((k + 2)) (Int.toNat x7) a1) fun s8 => ev_b (s8.1 k 11) fun x9 => ev_if ((0 : Int) ≤ x9 ∧ x9 < (ev_aln ((k + 3)) : Int)) (ev_b (ev_pI s8 ((k + 3)) (Int.toNat x9) a2) fun s10 => ev_b (s10.1 k 11) fun x11 => ev_if ((0 : Int) ≤ x11 ∧ x11 < (ev_aln ((k + 4)) : Int)) (ev_b (ev_pI s10 ((k + 4)) (Int.toNat x11) ((-1))) fun s12 => ev_b (s12.1 k 11) fun x13 => ev_if ((0 : Int) ≤ x13 ∧ x13 < (ev_aln ((k + 5)) : Int)) (ev_b (ev_pI s12 ((k + 5)) (Int.toNat x13) ((-1))) fun s14 => ev_b (s14.1 k 11) fun x15 => ev_if ((0 : Int) ≤ x15 ∧ x15 < (ev_aln ((k + 6)) : Int)) (ev_b (ev_pI s14 ((k + 6)) (Int.toNat x15) ((-1))) fun s16 => ev_b (s16.1 k 11) fun x17 => ev_if ((0 : Int) ≤ x17 ∧ x17 < (ev_aln ((k + 7)) : Int)) (ev_b (ev_pI s16 ((k + 7)) (Int.toNat x17) ((-1))) fun s18 => ev_b (s18.1 k 11) fun x19 => ev_ck (x19 + 1) fun x20 => ev_b (ev_pI s18 k 11 x20) fun s21 => ev_b (s21.1 k 11) fun x22 => ev_ck (x22 - 1) fun x23 => some (x23, s21))))))))) else (some ((-1), S)))
theorem jt_58 (d : Nat) (hd : 1 ≤ d) (Q : Nat) (k : Nat) (a0 : Int) (a1 : Int) (a2 : Int) (hk : ev_isOb k 5 = true) (ha0 : ev_rng a0) (ha1 : ev_rng a1) (ha2 : ev_rng a2) (S : ev_St) (x : Int) (S' : ev_St) (hJ : jm_58 Q k a0 a1 a2 S = some (x, S')) : ev_Ref d 58 [.ref k, .int (Int32.ofInt a0), .int (Int32.ofInt a1), .int (Int32.ofInt a2)] S (ev_eI x) S' (ev_rng x) := by
  obtain ⟨d, rfl⟩ : ∃ e, d = e + 1 := ⟨d - 1, by omega⟩
  refine ev_ref_of (P := ev_rng) (lv := [(0, .ref k), (1, .int (Int32.ofInt a0)), (2, .int (Int32.ofInt a1)), (3, .int (Int32.ofInt a2))]) (by decide +kernel) (by (try simp only [ev_sum, ev_nv_cat]); first | done | rfl) (by (try simp only [lv_args, ev_nv_cat]); first | done | rfl) ?_ x S' hJ
  unfold jm_58
  refine ev_r_aload_n (pc := 0) (k := 0) (v := .ref k) trivial (by decide +kernel) (by rfl) ?_
  refine ev_r_getI (pc := 1) (y := 60) (ci := 5) (f := 11) (fin := 0) (by decide +kernel) (by decide +kernel) (by exact hk) rfl ?_
  intro x1 hx1
  refine ev_r_if (pc := 4) (q := .lt) (o := 13) (t := 17) (c := x1 < 0) (by decide +kernel) (ev_k_lt hx1 ev_rng0) (by decide +kernel) ?_ ?_
  · intro c2
    refine ev_r_iconst (pc := 17) (k := -1) (by decide +kernel) ?_
    exact ev_r_ireturn (pc := 18) (x := (-1)) (v := Int32.ofInt ((-1))) (ty := .int) (by decide) (by decide +kernel) (by decide +kernel) rfl rfl
  · intro c2
    refine ev_r_aload_n (pc := 7) (k := 0) (v := .ref k) trivial (by decide +kernel) (by rfl) ?_
    refine ev_r_getI (pc := 8) (y := 60) (ci := 5) (f := 11) (fin := 0) (by decide +kernel) (by decide +kernel) (by exact hk) rfl ?_
    intro x3 hx3
    refine ev_r_sipush (pc := 11) (k := 400) (by decide +kernel) (by decide +kernel) ?_
    refine ev_r_icmp (pc := 14) (q := .lt) (o := 5) (t := 19) (c := x3 < 400) (by decide +kernel) (ev_k_lt hx3 (by decide)) (by decide +kernel) ?_ ?_
    · intro c4
      refine ev_r_aload_n (pc := 19) (k := 0) (v := .ref k) trivial (by decide +kernel) (by rfl) ?_
      refine ev_r_getC (pc := 20) (y := 11) (ci := 5) (f := 0) (fin := 1) (k' := (k + 1)) (by decide +kernel) (by decide +kernel) (by exact hk) rfl rfl ?_
      refine ev_r_aload_n (pc := 23) (k := 0) (v := .ref k) trivial (by decide +kernel) (by rfl) ?_
      refine ev_r_getI (pc := 24) (y := 60) (ci := 5) (f := 11) (fin := 0) (by decide +kernel) (by decide +kernel) (by exact hk) rfl ?_
      intro x5 hx5
      refine ev_r_iload_n (pc := 27) (k := 1) (v := Int32.ofInt a0) (by decide +kernel) (by rfl) ?_
      refine ev_r_iast (pc := 28) ha0 hx5 (by decide +kernel) (by exact (ev_fo_5_0 hk)) ?_
      intro s6
      refine ev_r_aload_n (pc := 29) (k := 0) (v := .ref k) trivial (by decide +kernel) (by rfl) ?_
      refine ev_r_getC (pc := 30) (y := 15) (ci := 5) (f := 1) (fin := 1) (k' := (k + 2)) (by decide +kernel) (by decide +kernel) (by exact hk) rfl rfl ?_
      refine ev_r_aload_n (pc := 33) (k := 0) (v := .ref k) trivial (by decide +kernel) (by rfl) ?_
      refine ev_r_getI (pc := 34) (y := 60) (ci := 5) (f := 11) (fin := 0) (by decide +kernel) (by decide +kernel) (by exact hk) rfl ?_
      intro x7 hx7
      refine ev_r_iload_n (pc := 37) (k := 2) (v := Int32.ofInt a1) (by decide +kernel) (by rfl) ?_
      refine ev_r_iast (pc := 38) ha1 hx7 (by decide +kernel) (by exact (ev_fo_5_1 hk)) ?_
      intro s8
      refine ev_r_aload_n (pc := 39) (k := 0) (v := .ref k) trivial (by decide +kernel) (by rfl) ?_
      refine ev_r_getC (pc := 40) (y := 18) (ci := 5) (f := 2) (fin := 1) (k' := (k + 3)) (by decide +kernel) (by decide +kernel) (by exact hk) rfl rfl ?_
      refine ev_r_aload_n (pc := 43) (k := 0) (v := .ref k) trivial (by decide +kernel) (by rfl) ?_
      refine ev_r_getI (pc := 44) (y := 60) (ci := 5) (f := 11) (fin := 0) (by decide +kernel) (by decide +kernel) (by exact hk) rfl ?_
      intro x9 hx9
      refine ev_r_iload_n (pc := 47) (k := 3) (v := Int32.ofInt a2) (by decide +kernel) (by rfl) ?_
      refine ev_r_iast (pc := 48) ha2 hx9 (by decide +kernel) (by exact (ev_fo_5_2 hk)) ?_
      intro s10
      refine ev_r_aload_n (pc := 49) (k := 0) (v := .ref k) trivial (by decide +kernel) (by rfl) ?_
      refine ev_r_getC (pc := 50) (y := 21) (ci := 5) (f := 3) (fin := 1) (k' := (k + 4)) (by decide +kernel) (by decide +kernel) (by exact hk) rfl rfl ?_
      refine ev_r_aload_n (pc := 53) (k := 0) (v := .ref k) trivial (by decide +kernel) (by rfl) ?_
      refine ev_r_getI (pc := 54) (y := 60) (ci := 5) (f := 11) (fin := 0) (by decide +kernel) (by decide +kernel) (by exact hk) rfl ?_
      intro x11 hx11
      refine ev_r_iconst (pc := 57) (k := -1) (by decide +kernel) ?_
      refine ev_r_iast (pc := 58) (by decide) hx11 (by decide +kernel) (by exact (ev_fo_5_3 hk)) ?_
      intro s12
      refine ev_r_aload_n (pc := 59) (k := 0) (v := .ref k) trivial (by decide +kernel) (by rfl) ?_
      refine ev_r_getC (pc := 60) (y := 24) (ci := 5) (f := 4) (fin := 1) (k' := (k + 5)) (by decide +kernel) (by decide +kernel) (by exact hk) rfl rfl ?_
      refine ev_r_aload_n (pc := 63) (k := 0) (v := .ref k) trivial (by decide +kernel) (by rfl) ?_
      refine ev_r_getI (pc := 64) (y := 60) (ci := 5) (f := 11) (fin := 0) (by decide +kernel) (by decide +kernel) (by exact hk) rfl ?_
      intro x13 hx13
      refine ev_r_iconst (pc := 67) (k := -1) (by decide +kernel) ?_
      refine ev_r_iast (pc := 68) (by decide) hx13 (by decide +kernel) (by exact (ev_fo_5_4 hk)) ?_
      intro s14
      refine ev_r_aload_n (pc := 69) (k := 0) (v := .ref k) trivial (by decide +kernel) (by rfl) ?_
      refine ev_r_getC (pc := 70) (y := 27) (ci := 5) (f := 5) (fin := 1) (k' := (k + 6)) (by decide +kernel) (by decide +kernel) (by exact hk) rfl rfl ?_
      refine ev_r_aload_n (pc := 73) (k := 0) (v := .ref k) trivial (by decide +kernel) (by rfl) ?_
      refine ev_r_getI (pc := 74) (y := 60) (ci := 5) (f := 11) (fin := 0) (by decide +kernel) (by decide +kernel) (by exact hk) rfl ?_
      intro x15 hx15
      refine ev_r_iconst (pc := 77) (k := -1) (by decide +kernel) ?_
      refine ev_r_iast (pc := 78) (by decide) hx15 (by decide +kernel) (by exact (ev_fo_5_5 hk)) ?_
      intro s16
      refine ev_r_aload_n (pc := 79) (k := 0) (v := .ref k) trivial (by decide +kernel) (by rfl) ?_
      refine ev_r_getC (pc := 80) (y := 30) (ci := 5) (f := 6) (fin := 1) (k' := (k + 7)) (by decide +kernel) (by decide +kernel) (by exact hk) rfl rfl ?_
      refine ev_r_aload_n (pc := 83) (k := 0) (v := .ref k) trivial (by decide +kernel) (by rfl) ?_
      refine ev_r_getI (pc := 84) (y := 60) (ci := 5) (f := 11) (fin := 0) (by decide +kernel) (by decide +kernel) (by exact hk) rfl ?_
      intro x17 hx17
      refine ev_r_iconst (pc := 87) (k := -1) (by decide +kernel) ?_
      refine ev_r_iast (pc := 88) (by decide) hx17 (by decide +kernel) (by exact (ev_fo_5_6 hk)) ?_
      intro s18
      refine ev_r_aload_n (pc := 89) (k := 0) (v := .ref k) trivial (by decide +kernel) (by rfl) ?_
      refine ev_r_dup (pc := 90) rfl (by decide +kernel) ?_
      refine ev_r_getI (pc := 91) (y := 60) (ci := 5) (f := 11) (fin := 0) (by decide +kernel) (by decide +kernel) (by exact hk) rfl ?_
      intro x19 hx19
      refine ev_r_iconst (pc := 94) (k := 1) (by decide +kernel) ?_
      refine ev_r_iadd (pc := 95) (by decide +kernel) ?_
      intro x20 hx20
      refine ev_r_putI (pc := 96) (y := 60) (ci := 5) (f := 11) hx20 (by decide +kernel) (by decide +kernel) (by exact hk) rfl rfl ?_
      intro s21
      refine ev_r_aload_n (pc := 99) (k := 0) (v := .ref k) trivial (by decide +kernel) (by rfl) ?_
      refine ev_r_getI (pc := 100) (y := 60) (ci := 5) (f := 11) (fin := 0) (by decide +kernel) (by decide +kernel) (by exact hk) rfl ?_
      intro x22 hx22
      refine ev_r_iconst (pc := 103) (k := 1) (by decide +kernel) ?_
      refine ev_r_isub (pc := 104) (by decide +kernel) ?_
      intro x23 hx23
      exact ev_r_ireturn (pc := 105) (x := x23) (v := Int32.ofInt x23) (ty := .int) hx23 (by decide +kernel) (by decide +kernel) rfl rfl
    · intro c4
      refine ev_r_iconst (pc := 17) (k := -1) (by decide +kernel) ?_
      exact ev_r_ireturn (pc := 18) (x := (-1)) (v := Int32.ofInt ((-1))) (ty := .int) (by decide) (by decide +kernel) (by decide +kernel) rfl rfl
def jb_68_75 (Q : Nat) (k : Nat) (a0 : Int) (x4 : Int) (x5 : Int) (x6 : Int) (K16 : Int → Int → Int → ev_St → Option ((Unit) × ev_St)) (K75 : Int → Int → ev_St → Option ((Unit) × ev_St)) (x50 : Int) (x51 : Int) (s60 : ev_St) : Option ((Unit) × ev_St) := ev_jn (fun  (s67 : ev_St) => ev_if ((0 : Int) ≤ x5 ∧ x5 < (ev_aln ((k + 5)) : Int)) (ev_b (s67.1 ((k + 5)) (Int.toNat x5)) fun x68 => ev_ck (x6 + 1) fun x69 => K16 x4 x68 x69 s67)) fun K139 => if 400 ≤ x51 then (K139  s60) else (ev_bd (jm_59 Q k x50 s60) fun x72 s71 => if x72 = 0 then (K139  s71) else (ev_if ((0 : Int) ≤ x50 ∧ x50 < (ev_aln ((k + 5)) : Int)) (ev_b (s71.1 ((k + 5)) (Int.toNat x50)) fun x74 => ev_jn (fun (x77 : Int) (x76 : Int) (r75 : Nat) (s86 : ev_St) => ev_if ((0 : Int) ≤ x76 ∧ x76 < (ev_aln r75 : Int)) (ev_b (ev_pI s86 r75 (Int.toNat x76) x77) fun s87 => ev_if ((0 : Int) ≤ x50 ∧ x50 < (ev_aln ((k + 5)) : Int)) (ev_b (s87.1 ((k + 5)) (Int.toNat x50)) fun x88 => ev_ck (x51 + 1) fun x89 => K75 x88 x89 s87))) fun K123 => if 0 ≤ x74 then (ev_if ((0 : Int) ≤ x50 ∧ x50 < (ev_aln ((k + 5)) : Int)) (ev_b (s71.1 ((k + 5)) (Int.toNat x50)) fun x91 => ev_ck (4 * x91) fun x92 => ev_ck (x92 + 0) fun x93 => K123 x93 x50 ((k + 7)) s71)) else (K123 x4 x50 ((k + 7)) s71))))
def jl_68_75 (Q : Nat) (k : Nat) (a0 : Int) (x4 : Int) (x5 : Int) (x6 : Int) (K16 : Int → Int → Int → ev_St → Option ((Unit) × ev_St)) : Nat → Int → Int → ev_St → Option ((Unit) × ev_St)
  | 0 => fun _ _ _ => none
  | q + 1 => jb_68_75 Q k a0 x4 x5 x6 K16 (jl_68_75 Q k a0 x4 x5 x6 K16 q)
theorem jbt_68_75 (d : Nat) (hd : 2 ≤ d + 1) (Q : Nat) (k : Nat) (a0 : Int) (x4 : Int) (x5 : Int) (x6 : Int) (hk : ev_isOb k 5 = true) (ha0 : ev_rng a0) (hx4 : ev_rng x4) (hx5 : ev_rng x5) (hx6 : ev_rng x6) (K16 : Int → Int → Int → ev_St → Option ((Unit) × ev_St)) (hK16 : ∀ (x4 : Int) (hx4 : ev_rng x4), ∀ (x5 : Int) (hx5 : ev_rng x5), ∀ (x6 : Int) (hx6 : ev_rng x6), ∀ (s13 : ev_St) (w7 : List (Nat × Value)), ev_lk w7 0 = some (.ref k) → ev_lk w7 1 = some (.int (Int32.ofInt a0)) → ev_lk w7 2 = some (.int (Int32.ofInt x4)) → ev_lk w7 3 = some (.int (Int32.ofInt x5)) → ev_lk w7 4 = some (.int (Int32.ofInt x6)) → ev_w none (ev_Mof 68) d 16 w7 [] s13 (K16 x4 x5 x6 s13) ev_eU ev_PU) (K75 : Int → Int → ev_St → Option ((Unit) × ev_St)) (hK75 : ∀ (x50 : Int) (hx50 : ev_rng x50), ∀ (x51 : Int) (hx51 : ev_rng x51), ∀ (s60 : ev_St) (w52 : List (Nat × Value)), ev_lk w52 0 = some (.ref k) → ev_lk w52 1 = some (.int (Int32.ofInt a0)) → ev_lk w52 2 = some (.int (Int32.ofInt x4)) → ev_lk w52 3 = some (.int (Int32.ofInt x5)) → ev_lk w52 4 = some (.int (Int32.ofInt x6)) → ev_lk w52 5 = some (.int (Int32.ofInt x50)) → ev_lk w52 6 = some (.int (Int32.ofInt x51)) → ev_w none (ev_Mof 68) d 75 w52 [] s60 (K75 x50 x51 s60) ev_eU ev_PU) : ∀ (x50 : Int) (hx50 : ev_rng x50), ∀ (x51 : Int) (hx51 : ev_rng x51), ∀ (s60 : ev_St) (w52 : List (Nat × Value)), ev_lk w52 0 = some (.ref k) → ev_lk w52 1 = some (.int (Int32.ofInt a0)) → ev_lk w52 2 = some (.int (Int32.ofInt x4)) → ev_lk w52 3 = some (.int (Int32.ofInt x5)) → ev_lk w52 4 = some (.int (Int32.ofInt x6)) → ev_lk w52 5 = some (.int (Int32.ofInt x50)) → ev_lk w52 6 = some (.int (Int32.ofInt x51)) → ev_w none (ev_Mof 68) d 75 w52 [] s60 (jb_68_75 Q k a0 x4 x5 x6 K16 K75 x50 x51 s60) ev_eU ev_PU := by
  intro x50 hx50 x51 hx51 s60 w52 e53 e54 e55 e56 e57 e58 e59
  unfold jb_68_75
  refine ev_r_iload (pc := 75) (k := 6) (v := Int32.ofInt x51) (by decide +kernel) (by exact e59) ?_
  refine ev_r_sipush (pc := 77) (k := 400) (by decide +kernel) (by decide +kernel) ?_
  refine ev_r_jn (Q := fun K => ∀ (s67 : ev_St) (w61 : List (Nat × Value)), ev_lk w61 0 = some (.ref k) → ev_lk w61 1 = some (.int (Int32.ofInt a0)) → ev_lk w61 2 = some (.int (Int32.ofInt x4)) → ev_lk w61 3 = some (.int (Int32.ofInt x5)) → ev_lk w61 4 = some (.int (Int32.ofInt x6)) → ev_w none (ev_Mof 68) d 139 w61 [] s67 (K  s67) ev_eU ev_PU) ?_ ?_
  · intro  s67 w61 e62 e63 e64 e65 e66
    refine ev_r_aload_n (pc := 139) (k := 0) (v := .ref k) trivial (by decide +kernel) (by exact e62) ?_
    refine ev_r_getC (pc := 140) (y := 24) (ci := 5) (f := 4) (fin := 1) (k' := (k + 5)) (by decide +kernel) (by decide +kernel) (by exact hk) rfl rfl ?_
    refine ev_r_iload_n (pc := 143) (k := 3) (v := Int32.ofInt x5) (by decide +kernel) (by exact e65) ?_
    refine ev_r_iald (pc := 144) hx5 (by decide +kernel) (by exact (ev_fo_5_4 hk)) ?_
    intro x68 hx68
    refine ev_r_istore_n (pc := 145) (k := 3) (by decide +kernel) (by decide +kernel) rfl ?_
    refine ev_r_iinc (pc := 146) (k := 4) (c := 1) (x := x6) (by decide +kernel) (by decide +kernel) (by exact (ev_l1 e66 (by decide) (by decide))) (fun _ => rfl) ?_
    intro x69 hx69
    refine ev_r_goto (pc := 149) (o := (-133)) (t := 16) (by decide +kernel) (by decide +kernel) ?_
    exact hK16 x4 hx4 x68 hx68 x69 hx69 s67 _ (by exact (ev_l1 (ev_l1 e62 (by decide) (by decide)) (by decide) (by decide))) (by exact (ev_l1 (ev_l1 e63 (by decide) (by decide)) (by decide) (by decide))) (by exact (ev_l1 (ev_lk_st1 e64 (by decide) rfl) (by decide) (by decide))) (by exact (ev_lk_st1 ev_lk_st1_self (by decide) rfl)) (by exact ev_lk_st1_self)
  · intro K139 hK139
    refine ev_r_icmp (pc := 80) (q := .ge) (o := 59) (t := 139) (c := 400 ≤ x51) (by decide +kernel) (ev_k_ge hx51 (by decide)) (by decide +kernel) ?_ ?_
    · intro c70
      exact hK139  s60 _ (by exact e53) (by exact e54) (by exact e55) (by exact e56) (by exact e57)
    · intro c70
      refine ev_r_aload_n (pc := 83) (k := 0) (v := .ref k) trivial (by decide +kernel) (by exact e53) ?_
      refine ev_r_iload (pc := 84) (k := 5) (v := Int32.ofInt x50) (by decide +kernel) (by exact e58) ?_
      refine ev_r_virt (pc := 86) (y := 73) (mi := 59) (na := 1) (k := k) (as := [.int (Int32.ofInt x50)]) (rest := []) (encc := ev_oI) (Q := ev_bl) (fun x S1 h => jt_59 d (by omega) Q k x50 hk hx50 s60 x S1 h) (by exact hk) (by decide +kernel) (by decide +kernel) (by decide +kernel) (by decide +kernel) rfl (by (try simp only [ev_sum, ev_nv_cat]); first | done | rfl) ?_
      intro x72 s71 hx72
      replace hx72 := ev_bl_rng hx72
      show ev_w _ _ _ _ _ [.int (Int32.ofInt x72)] _ _ _ _
      refine ev_r_if (pc := 89) (q := .eq) (o := 50) (t := 139) (c := x72 = 0) (by decide +kernel) (ev_k_eq hx72 ev_rng0) (by decide +kernel) ?_ ?_
      · intro c73
        exact hK139  s71 _ (by exact e53) (by exact e54) (by exact e55) (by exact e56) (by exact e57)
      · intro c73
        refine ev_r_aload_n (pc := 92) (k := 0) (v := .ref k) trivial (by decide +kernel) (by exact e53) ?_
        refine ev_r_getC (pc := 93) (y := 30) (ci := 5) (f := 6) (fin := 1) (k' := (k + 7)) (by decide +kernel) (by decide +kernel) (by exact hk) rfl rfl ?_
        refine ev_r_iload (pc := 96) (k := 5) (v := Int32.ofInt x50) (by decide +kernel) (by exact e58) ?_
        refine ev_r_aload_n (pc := 98) (k := 0) (v := .ref k) trivial (by decide +kernel) (by exact e53) ?_
        refine ev_r_getC (pc := 99) (y := 24) (ci := 5) (f := 4) (fin := 1) (k' := (k + 5)) (by decide +kernel) (by decide +kernel) (by exact hk) rfl rfl ?_
        refine ev_r_iload (pc := 102) (k := 5) (v := Int32.ofInt x50) (by decide +kernel) (by exact e58) ?_
        refine ev_r_iald (pc := 104) hx50 (by decide +kernel) (by exact (ev_fo_5_4 hk)) ?_
        intro x74 hx74
        refine ev_r_jn (Q := fun K => ∀ (x77 : Int) (hx77 : ev_rng x77), ∀ (x76 : Int) (hx76 : ev_rng x76), ∀ (r75 : Nat) (hr75 : ev_isAb r75 1 .int = true), ∀ (s86 : ev_St) (w78 : List (Nat × Value)), ev_lk w78 0 = some (.ref k) → ev_lk w78 1 = some (.int (Int32.ofInt a0)) → ev_lk w78 2 = some (.int (Int32.ofInt x4)) → ev_lk w78 3 = some (.int (Int32.ofInt x5)) → ev_lk w78 4 = some (.int (Int32.ofInt x6)) → ev_lk w78 5 = some (.int (Int32.ofInt x50)) → ev_lk w78 6 = some (.int (Int32.ofInt x51)) → ev_w none (ev_Mof 68) d 123 w78 [.int (Int32.ofInt x77), .int (Int32.ofInt x76), .ref r75] s86 (K x77 x76 r75 s86) ev_eU ev_PU) ?_ ?_
        · intro x77 hx77 x76 hx76 r75 hr75 s86 w78 e79 e80 e81 e82 e83 e84 e85
          refine ev_r_iast (pc := 123) hx77 hx76 (by decide +kernel) (by exact hr75) ?_
          intro s87
          refine ev_r_aload_n (pc := 124) (k := 0) (v := .ref k) trivial (by decide +kernel) (by exact e79) ?_
          refine ev_r_getC (pc := 125) (y := 24) (ci := 5) (f := 4) (fin := 1) (k' := (k + 5)) (by decide +kernel) (by decide +kernel) (by exact hk) rfl rfl ?_
          refine ev_r_iload (pc := 128) (k := 5) (v := Int32.ofInt x50) (by decide +kernel) (by exact e84) ?_
          refine ev_r_iald (pc := 130) hx50 (by decide +kernel) (by exact (ev_fo_5_4 hk)) ?_
          intro x88 hx88
          refine ev_r_istore (pc := 131) (k := 5) (by decide +kernel) (by decide +kernel) rfl ?_
          refine ev_r_iinc (pc := 133) (k := 6) (c := 1) (x := x51) (by decide +kernel) (by decide +kernel) (by exact (ev_l1 e85 (by decide) (by decide))) (fun _ => rfl) ?_
          intro x89 hx89
          refine ev_r_goto (pc := 136) (o := (-61)) (t := 75) (by decide +kernel) (by decide +kernel) ?_
          exact hK75 x88 hx88 x89 hx89 s87 _ (by exact (ev_l1 (ev_l1 e79 (by decide) (by decide)) (by decide) (by decide))) (by exact (ev_l1 (ev_l1 e80 (by decide) (by decide)) (by decide) (by decide))) (by exact (ev_l1 (ev_l1 e81 (by decide) (by decide)) (by decide) (by decide))) (by exact (ev_l1 (ev_l1 e82 (by decide) (by decide)) (by decide) (by decide))) (by exact (ev_l1 (ev_lk_st1 e83 (by decide) rfl) (by decide) (by decide))) (by exact (ev_lk_st1 ev_lk_st1_self (by decide) rfl)) (by exact ev_lk_st1_self)
        · intro K123 hK123
          refine ev_r_if (pc := 105) (q := .ge) (o := 7) (t := 112) (c := 0 ≤ x74) (by decide +kernel) (ev_k_ge hx74 ev_rng0) (by decide +kernel) ?_ ?_
          · intro c90
            refine ev_r_iconst (pc := 112) (k := 4) (by decide +kernel) ?_
            refine ev_r_aload_n (pc := 113) (k := 0) (v := .ref k) trivial (by decide +kernel) (by exact e53) ?_
            refine ev_r_getC (pc := 114) (y := 24) (ci := 5) (f := 4) (fin := 1) (k' := (k + 5)) (by decide +kernel) (by decide +kernel) (by exact hk) rfl rfl ?_
            refine ev_r_iload (pc := 117) (k := 5) (v := Int32.ofInt x50) (by decide +kernel) (by exact e58) ?_
            refine ev_r_iald (pc := 119) hx50 (by decide +kernel) (by exact (ev_fo_5_4 hk)) ?_
            intro x91 hx91
            refine ev_r_imul (pc := 120) (by decide +kernel) ?_
            intro x92 hx92
            refine ev_r_iconst (pc := 121) (k := 0) (by decide +kernel) ?_
            refine ev_r_iadd (pc := 122) (by decide +kernel) ?_
            intro x93 hx93
            exact hK123 x93 hx93 x50 hx50 ((k + 7)) (ev_fo_5_6 hk) s71 _ (by exact e53) (by exact e54) (by exact e55) (by exact e56) (by exact e57) (by exact e58) (by exact e59)
          · intro c90
            refine ev_r_iload_n (pc := 108) (k := 2) (v := Int32.ofInt x4) (by decide +kernel) (by exact e55) ?_
            refine ev_r_goto (pc := 109) (o := 14) (t := 123) (by decide +kernel) (by decide +kernel) ?_
            exact hK123 x4 hx4 x50 hx50 ((k + 7)) (ev_fo_5_6 hk) s71 _ (by exact e53) (by exact e54) (by exact e55) (by exact e56) (by exact e57) (by exact e58) (by exact e59)
theorem jlt_68_75 (d : Nat) (hd : 2 ≤ d + 1) (Q : Nat) (k : Nat) (a0 : Int) (x4 : Int) (x5 : Int) (x6 : Int) (hk : ev_isOb k 5 = true) (ha0 : ev_rng a0) (hx4 : ev_rng x4) (hx5 : ev_rng x5) (hx6 : ev_rng x6) (K16 : Int → Int → Int → ev_St → Option ((Unit) × ev_St)) (hK16 : ∀ (x4 : Int) (hx4 : ev_rng x4), ∀ (x5 : Int) (hx5 : ev_rng x5), ∀ (x6 : Int) (hx6 : ev_rng x6), ∀ (s13 : ev_St) (w7 : List (Nat × Value)), ev_lk w7 0 = some (.ref k) → ev_lk w7 1 = some (.int (Int32.ofInt a0)) → ev_lk w7 2 = some (.int (Int32.ofInt x4)) → ev_lk w7 3 = some (.int (Int32.ofInt x5)) → ev_lk w7 4 = some (.int (Int32.ofInt x6)) → ev_w none (ev_Mof 68) d 16 w7 [] s13 (K16 x4 x5 x6 s13) ev_eU ev_PU) : ∀ q : Nat, ∀ (x50 : Int) (hx50 : ev_rng x50), ∀ (x51 : Int) (hx51 : ev_rng x51), ∀ (s60 : ev_St) (w52 : List (Nat × Value)), ev_lk w52 0 = some (.ref k) → ev_lk w52 1 = some (.int (Int32.ofInt a0)) → ev_lk w52 2 = some (.int (Int32.ofInt x4)) → ev_lk w52 3 = some (.int (Int32.ofInt x5)) → ev_lk w52 4 = some (.int (Int32.ofInt x6)) → ev_lk w52 5 = some (.int (Int32.ofInt x50)) → ev_lk w52 6 = some (.int (Int32.ofInt x51)) → ev_w none (ev_Mof 68) d 75 w52 [] s60 (jl_68_75 Q k a0 x4 x5 x6 K16 q x50 x51 s60) ev_eU ev_PU := by
  intro q
  induction q with
  | zero =>
    intro x50 hx50 x51 hx51 s60 w52 e53 e54 e55 e56 e57 e58 e59
    exact ev_w_none
  | succ q ih => exact jbt_68_75 d hd Q k a0 x4 x5 x6 hk ha0 hx4 hx5 hx6 K16 hK16 _ ih
def jb_68_16 (Q : Nat) (k : Nat) (a0 : Int)  (K16 : Int → Int → Int → ev_St → Option ((Unit) × ev_St)) (x4 : Int) (x5 : Int) (x6 : Int) (s13 : ev_St) : Option ((Unit) × ev_St) := ev_jn (fun  (s17 : ev_St) => ev_if ((0 : Int) ≤ a0 ∧ a0 < (ev_aln ((k + 4)) : Int)) (ev_b (s17.1 ((k + 4)) (Int.toNat a0)) fun x18 => ev_bd (jm_59 Q k x18 s17) fun x20 s19 => if x20 = 0 then (some ((), s19)) else (ev_if ((0 : Int) ≤ x18 ∧ x18 < (ev_aln ((k + 5)) : Int)) (ev_b (s19.1 ((k + 5)) (Int.toNat x18)) fun x22 => if 0 ≤ x22 then (ev_ck (4 * x18) fun x24 => ev_ck (x24 + 0) fun x25 => ev_if ((0 : Int) ≤ a0 ∧ a0 < (ev_aln ((k + 6)) : Int)) (ev_b (ev_pI s19 ((k + 6)) (Int.toNat a0) x25) fun s26 => some ((), s26))) else (ev_if ((0 : Int) ≤ x18 ∧ x18 < (ev_aln ((k + 6)) : Int)) (ev_b (s19.1 ((k + 6)) (Int.toNat x18)) fun x27 => ev_if ((0 : Int) ≤ a0 ∧ a0 < (ev_aln ((k + 6)) : Int)) (ev_b (ev_pI s19 ((k + 6)) (Int.toNat a0) x27) fun s28 => some ((), s28)))))))) fun K152 => if 400 ≤ x6 then (K152  s13) else (ev_bd (jm_59 Q k x5 s13) fun x31 s30 => if x31 = 0 then (K152  s30) else (ev_if ((0 : Int) ≤ x5 ∧ x5 < (ev_aln ((k + 4)) : Int)) (ev_b (s30.1 ((k + 4)) (Int.toNat x5)) fun x33 => ev_if ((0 : Int) ≤ x5 ∧ x5 < (ev_aln ((k + 7)) : Int)) (ev_b (ev_pI s30 ((k + 7)) (Int.toNat x5) x4) fun s34 => ev_bd (jm_59 Q k x33 s34) fun x36 s35 => ev_jn (fun (x37 : Int) (x40 : Int) (x39 : Int) (r38 : Nat) (s48 : ev_St) => ev_if ((0 : Int) ≤ x39 ∧ x39 < (ev_aln r38 : Int)) (ev_b (ev_pI s48 r38 (Int.toNat x39) x40) fun s49 => jl_68_75 Q k a0 x4 x5 x6 K16 Q x37 0 s49)) fun K71 => if x36 = 0 then (K71 x33 x4 x5 ((k + 6)) s35) else (ev_ck (4 * x33) fun x95 => ev_ck (x95 + 0) fun x96 => K71 x33 x96 x5 ((k + 6)) s35)))))
def jl_68_16 (Q : Nat) (k : Nat) (a0 : Int)  : Nat → Int → Int → Int → ev_St → Option ((Unit) × ev_St)
  | 0 => fun _ _ _ _ => none
  | q + 1 => jb_68_16 Q k a0  (jl_68_16 Q k a0  q)
theorem jbt_68_16 (d : Nat) (hd : 2 ≤ d + 1) (Q : Nat) (k : Nat) (a0 : Int) (hk : ev_isOb k 5 = true) (ha0 : ev_rng a0)   (K16 : Int → Int → Int → ev_St → Option ((Unit) × ev_St)) (hK16 : ∀ (x4 : Int) (hx4 : ev_rng x4), ∀ (x5 : Int) (hx5 : ev_rng x5), ∀ (x6 : Int) (hx6 : ev_rng x6), ∀ (s13 : ev_St) (w7 : List (Nat × Value)), ev_lk w7 0 = some (.ref k) → ev_lk w7 1 = some (.int (Int32.ofInt a0)) → ev_lk w7 2 = some (.int (Int32.ofInt x4)) → ev_lk w7 3 = some (.int (Int32.ofInt x5)) → ev_lk w7 4 = some (.int (Int32.ofInt x6)) → ev_w none (ev_Mof 68) d 16 w7 [] s13 (K16 x4 x5 x6 s13) ev_eU ev_PU) : ∀ (x4 : Int) (hx4 : ev_rng x4), ∀ (x5 : Int) (hx5 : ev_rng x5), ∀ (x6 : Int) (hx6 : ev_rng x6), ∀ (s13 : ev_St) (w7 : List (Nat × Value)), ev_lk w7 0 = some (.ref k) → ev_lk w7 1 = some (.int (Int32.ofInt a0)) → ev_lk w7 2 = some (.int (Int32.ofInt x4)) → ev_lk w7 3 = some (.int (Int32.ofInt x5)) → ev_lk w7 4 = some (.int (Int32.ofInt x6)) → ev_w none (ev_Mof 68) d 16 w7 [] s13 (jb_68_16 Q k a0  K16 x4 x5 x6 s13) ev_eU ev_PU := by
  intro x4 hx4 x5 hx5 x6 hx6 s13 w7 e8 e9 e10 e11 e12
  unfold jb_68_16
  refine ev_r_iload (pc := 16) (k := 4) (v := Int32.ofInt x6) (by decide +kernel) (by exact e12) ?_
  refine ev_r_sipush (pc := 18) (k := 400) (by decide +kernel) (by decide +kernel) ?_
  refine ev_r_jn (Q := fun K => ∀ (s17 : ev_St) (w14 : List (Nat × Value)), ev_lk w14 0 = some (.ref k) → ev_lk w14 1 = some (.int (Int32.ofInt a0)) → ev_w none (ev_Mof 68) d 152 w14 [] s17 (K  s17) ev_eU ev_PU) ?_ ?_
  · intro  s17 w14 e15 e16
    refine ev_r_aload_n (pc := 152) (k := 0) (v := .ref k) trivial (by decide +kernel) (by exact e15) ?_
    refine ev_r_getC (pc := 153) (y := 21) (ci := 5) (f := 3) (fin := 1) (k' := (k + 4)) (by decide +kernel) (by decide +kernel) (by exact hk) rfl rfl ?_
    refine ev_r_iload_n (pc := 156) (k := 1) (v := Int32.ofInt a0) (by decide +kernel) (by exact e16) ?_
    refine ev_r_iald (pc := 157) ha0 (by decide +kernel) (by exact (ev_fo_5_3 hk)) ?_
    intro x18 hx18
    refine ev_r_istore (pc := 158) (k := 4) (by decide +kernel) (by decide +kernel) rfl ?_
    refine ev_r_aload_n (pc := 160) (k := 0) (v := .ref k) trivial (by decide +kernel) (by exact (ev_l1 e15 (by decide) (by decide))) ?_
    refine ev_r_iload (pc := 161) (k := 4) (v := Int32.ofInt x18) (by decide +kernel) (by exact ev_lk_st1_self) ?_
    refine ev_r_virt (pc := 163) (y := 73) (mi := 59) (na := 1) (k := k) (as := [.int (Int32.ofInt x18)]) (rest := []) (encc := ev_oI) (Q := ev_bl) (fun x S1 h => jt_59 d (by omega) Q k x18 hk hx18 s17 x S1 h) (by exact hk) (by decide +kernel) (by decide +kernel) (by decide +kernel) (by decide +kernel) rfl (by (try simp only [ev_sum, ev_nv_cat]); first | done | rfl) ?_
    intro x20 s19 hx20
    replace hx20 := ev_bl_rng hx20
    show ev_w _ _ _ _ _ [.int (Int32.ofInt x20)] _ _ _ _
    refine ev_r_if (pc := 166) (q := .eq) (o := 35) (t := 201) (c := x20 = 0) (by decide +kernel) (ev_k_eq hx20 ev_rng0) (by decide +kernel) ?_ ?_
    · intro c21
      exact ev_r_return (pc := 201) (x := ()) trivial (by decide +kernel) (by decide +kernel) rfl
    · intro c21
      refine ev_r_aload_n (pc := 169) (k := 0) (v := .ref k) trivial (by decide +kernel) (by exact (ev_l1 e15 (by decide) (by decide))) ?_
      refine ev_r_getC (pc := 170) (y := 27) (ci := 5) (f := 5) (fin := 1) (k' := (k + 6)) (by decide +kernel) (by decide +kernel) (by exact hk) rfl rfl ?_
      refine ev_r_iload_n (pc := 173) (k := 1) (v := Int32.ofInt a0) (by decide +kernel) (by exact (ev_l1 e16 (by decide) (by decide))) ?_
      refine ev_r_aload_n (pc := 174) (k := 0) (v := .ref k) trivial (by decide +kernel) (by exact (ev_l1 e15 (by decide) (by decide))) ?_
      refine ev_r_getC (pc := 175) (y := 24) (ci := 5) (f := 4) (fin := 1) (k' := (k + 5)) (by decide +kernel) (by decide +kernel) (by exact hk) rfl rfl ?_
      refine ev_r_iload (pc := 178) (k := 4) (v := Int32.ofInt x18) (by decide +kernel) (by exact ev_lk_st1_self) ?_
      refine ev_r_iald (pc := 180) hx18 (by decide +kernel) (by exact (ev_fo_5_4 hk)) ?_
      intro x22 hx22
      refine ev_r_if (pc := 181) (q := .ge) (o := 13) (t := 194) (c := 0 ≤ x22) (by decide +kernel) (ev_k_ge hx22 ev_rng0) (by decide +kernel) ?_ ?_
      · intro c23
        refine ev_r_iconst (pc := 194) (k := 4) (by decide +kernel) ?_
        refine ev_r_iload (pc := 195) (k := 4) (v := Int32.ofInt x18) (by decide +kernel) (by exact ev_lk_st1_self) ?_
        refine ev_r_imul (pc := 197) (by decide +kernel) ?_
        intro x24 hx24
        refine ev_r_iconst (pc := 198) (k := 0) (by decide +kernel) ?_
        refine ev_r_iadd (pc := 199) (by decide +kernel) ?_
        intro x25 hx25
        refine ev_r_iast (pc := 200) hx25 ha0 (by decide +kernel) (by exact (ev_fo_5_5 hk)) ?_
        intro s26
        exact ev_r_return (pc := 201) (x := ()) trivial (by decide +kernel) (by decide +kernel) rfl
      · intro c23
        refine ev_r_aload_n (pc := 184) (k := 0) (v := .ref k) trivial (by decide +kernel) (by exact (ev_l1 e15 (by decide) (by decide))) ?_
        refine ev_r_getC (pc := 185) (y := 27) (ci := 5) (f := 5) (fin := 1) (k' := (k + 6)) (by decide +kernel) (by decide +kernel) (by exact hk) rfl rfl ?_
        refine ev_r_iload (pc := 188) (k := 4) (v := Int32.ofInt x18) (by decide +kernel) (by exact ev_lk_st1_self) ?_
        refine ev_r_iald (pc := 190) hx18 (by decide +kernel) (by exact (ev_fo_5_5 hk)) ?_
        intro x27 hx27
        refine ev_r_goto (pc := 191) (o := 9) (t := 200) (by decide +kernel) (by decide +kernel) ?_
        refine ev_r_iast (pc := 200) hx27 ha0 (by decide +kernel) (by exact (ev_fo_5_5 hk)) ?_
        intro s28
        exact ev_r_return (pc := 201) (x := ()) trivial (by decide +kernel) (by decide +kernel) rfl
  · intro K152 hK152
    refine ev_r_icmp (pc := 21) (q := .ge) (o := 131) (t := 152) (c := 400 ≤ x6) (by decide +kernel) (ev_k_ge hx6 (by decide)) (by decide +kernel) ?_ ?_
    · intro c29
      exact hK152  s13 _ (by exact e8) (by exact e9)
    · intro c29
      refine ev_r_aload_n (pc := 24) (k := 0) (v := .ref k) trivial (by decide +kernel) (by exact e8) ?_
      refine ev_r_iload_n (pc := 25) (k := 3) (v := Int32.ofInt x5) (by decide +kernel) (by exact e11) ?_
      refine ev_r_virt (pc := 26) (y := 73) (mi := 59) (na := 1) (k := k) (as := [.int (Int32.ofInt x5)]) (rest := []) (encc := ev_oI) (Q := ev_bl) (fun x S1 h => jt_59 d (by omega) Q k x5 hk hx5 s13 x S1 h) (by exact hk) (by decide +kernel) (by decide +kernel) (by decide +kernel) (by decide +kernel) rfl (by (try simp only [ev_sum, ev_nv_cat]); first | done | rfl) ?_
      intro x31 s30 hx31
      replace hx31 := ev_bl_rng hx31
      show ev_w _ _ _ _ _ [.int (Int32.ofInt x31)] _ _ _ _
      refine ev_r_if (pc := 29) (q := .eq) (o := 123) (t := 152) (c := x31 = 0) (by decide +kernel) (ev_k_eq hx31 ev_rng0) (by decide +kernel) ?_ ?_
      · intro c32
        exact hK152  s30 _ (by exact e8) (by exact e9)
      · intro c32
        refine ev_r_aload_n (pc := 32) (k := 0) (v := .ref k) trivial (by decide +kernel) (by exact e8) ?_
        refine ev_r_getC (pc := 33) (y := 21) (ci := 5) (f := 3) (fin := 1) (k' := (k + 4)) (by decide +kernel) (by decide +kernel) (by exact hk) rfl rfl ?_
        refine ev_r_iload_n (pc := 36) (k := 3) (v := Int32.ofInt x5) (by decide +kernel) (by exact e11) ?_
        refine ev_r_iald (pc := 37) hx5 (by decide +kernel) (by exact (ev_fo_5_3 hk)) ?_
        intro x33 hx33
        refine ev_r_istore (pc := 38) (k := 5) (by decide +kernel) (by decide +kernel) rfl ?_
        refine ev_r_aload_n (pc := 40) (k := 0) (v := .ref k) trivial (by decide +kernel) (by exact (ev_l1 e8 (by decide) (by decide))) ?_
        refine ev_r_getC (pc := 41) (y := 30) (ci := 5) (f := 6) (fin := 1) (k' := (k + 7)) (by decide +kernel) (by decide +kernel) (by exact hk) rfl rfl ?_
        refine ev_r_iload_n (pc := 44) (k := 3) (v := Int32.ofInt x5) (by decide +kernel) (by exact (ev_l1 e11 (by decide) (by decide))) ?_
        refine ev_r_iload_n (pc := 45) (k := 2) (v := Int32.ofInt x4) (by decide +kernel) (by exact (ev_l1 e10 (by decide) (by decide))) ?_
        refine ev_r_iast (pc := 46) hx4 hx5 (by decide +kernel) (by exact (ev_fo_5_6 hk)) ?_
        intro s34
        refine ev_r_aload_n (pc := 47) (k := 0) (v := .ref k) trivial (by decide +kernel) (by exact (ev_l1 e8 (by decide) (by decide))) ?_
        refine ev_r_getC (pc := 48) (y := 27) (ci := 5) (f := 5) (fin := 1) (k' := (k + 6)) (by decide +kernel) (by decide +kernel) (by exact hk) rfl rfl ?_
        refine ev_r_iload_n (pc := 51) (k := 3) (v := Int32.ofInt x5) (by decide +kernel) (by exact (ev_l1 e11 (by decide) (by decide))) ?_
        refine ev_r_aload_n (pc := 52) (k := 0) (v := .ref k) trivial (by decide +kernel) (by exact (ev_l1 e8 (by decide) (by decide))) ?_
        refine ev_r_iload (pc := 53) (k := 5) (v := Int32.ofInt x33) (by decide +kernel) (by exact ev_lk_st1_self) ?_
        refine ev_r_virt (pc := 55) (y := 73) (mi := 59) (na := 1) (k := k) (as := [.int (Int32.ofInt x33)]) (rest := [.int (Int32.ofInt x5), .ref ((k + 6))]) (encc := ev_oI) (Q := ev_bl) (fun x S1 h => jt_59 d (by omega) Q k x33 hk hx33 s34 x S1 h) (by exact hk) (by decide +kernel) (by decide +kernel) (by decide +kernel) (by decide +kernel) rfl (by (try simp only [ev_sum, ev_nv_cat]); first | done | rfl) ?_
        intro x36 s35 hx36
        replace hx36 := ev_bl_rng hx36
        show ev_w _ _ _ _ _ [.int (Int32.ofInt x36), .int (Int32.ofInt x5), .ref ((k + 6))] _ _ _ _
        refine ev_r_jn (Q := fun K => ∀ (x37 : Int) (hx37 : ev_rng x37), ∀ (x40 : Int) (hx40 : ev_rng x40), ∀ (x39 : Int) (hx39 : ev_rng x39), ∀ (r38 : Nat) (hr38 : ev_isAb r38 1 .int = true), ∀ (s48 : ev_St) (w41 : List (Nat × Value)), ev_lk w41 0 = some (.ref k) → ev_lk w41 1 = some (.int (Int32.ofInt a0)) → ev_lk w41 2 = some (.int (Int32.ofInt x4)) → ev_lk w41 3 = some (.int (Int32.ofInt x5)) → ev_lk w41 4 = some (.int (Int32.ofInt x6)) → ev_lk w41 5 = some (.int (Int32.ofInt x37)) → ev_w none (ev_Mof 68) d 71 w41 [.int (Int32.ofInt x40), .int (Int32.ofInt x39), .ref r38] s48 (K x37 x40 x39 r38 s48) ev_eU ev_PU) ?_ ?_
        · intro x37 hx37 x40 hx40 x39 hx39 r38 hr38 s48 w41 e42 e43 e44 e45 e46 e47
          refine ev_r_iast (pc := 71) hx40 hx39 (by decide +kernel) (by exact hr38) ?_
          intro s49
          refine ev_r_iconst (pc := 72) (k := 0) (by decide +kernel) ?_
          refine ev_r_istore (pc := 73) (k := 6) (by decide +kernel) (by decide +kernel) rfl ?_
          exact jlt_68_75 d hd Q k a0 x4 x5 x6 hk ha0 hx4 hx5 hx6 K16 hK16 Q x37 hx37 0 (by decide) s49 _ (by exact (ev_l1 e42 (by decide) (by decide))) (by exact (ev_l1 e43 (by decide) (by decide))) (by exact (ev_l1 e44 (by decide) (by decide))) (by exact (ev_l1 e45 (by decide) (by decide))) (by exact (ev_l1 e46 (by decide) (by decide))) (by exact (ev_lk_st1 e47 (by decide) rfl)) (by exact ev_lk_st1_self)
        · intro K71 hK71
          refine ev_r_if (pc := 58) (q := .eq) (o := 12) (t := 70) (c := x36 = 0) (by decide +kernel) (ev_k_eq hx36 ev_rng0) (by decide +kernel) ?_ ?_
          · intro c94
            refine ev_r_iload_n (pc := 70) (k := 2) (v := Int32.ofInt x4) (by decide +kernel) (by exact (ev_l1 e10 (by decide) (by decide))) ?_
            exact hK71 x33 hx33 x4 hx4 x5 hx5 ((k + 6)) (ev_fo_5_5 hk) s35 _ (by exact (ev_l1 e8 (by decide) (by decide))) (by exact (ev_l1 e9 (by decide) (by decide))) (by exact (ev_l1 e10 (by decide) (by decide))) (by exact (ev_l1 e11 (by decide) (by decide))) (by exact (ev_lk_st1 e12 (by decide) rfl)) (by exact ev_lk_st1_self)
          · intro c94
            refine ev_r_iconst (pc := 61) (k := 4) (by decide +kernel) ?_
            refine ev_r_iload (pc := 62) (k := 5) (v := Int32.ofInt x33) (by decide +kernel) (by exact ev_lk_st1_self) ?_
            refine ev_r_imul (pc := 64) (by decide +kernel) ?_
            intro x95 hx95
            refine ev_r_iconst (pc := 65) (k := 0) (by decide +kernel) ?_
            refine ev_r_iadd (pc := 66) (by decide +kernel) ?_
            intro x96 hx96
            refine ev_r_goto (pc := 67) (o := 4) (t := 71) (by decide +kernel) (by decide +kernel) ?_
            exact hK71 x33 hx33 x96 hx96 x5 hx5 ((k + 6)) (ev_fo_5_5 hk) s35 _ (by exact (ev_l1 e8 (by decide) (by decide))) (by exact (ev_l1 e9 (by decide) (by decide))) (by exact (ev_l1 e10 (by decide) (by decide))) (by exact (ev_l1 e11 (by decide) (by decide))) (by exact (ev_lk_st1 e12 (by decide) rfl)) (by exact ev_lk_st1_self)
theorem jlt_68_16 (d : Nat) (hd : 2 ≤ d + 1) (Q : Nat) (k : Nat) (a0 : Int) (hk : ev_isOb k 5 = true) (ha0 : ev_rng a0)   : ∀ q : Nat, ∀ (x4 : Int) (hx4 : ev_rng x4), ∀ (x5 : Int) (hx5 : ev_rng x5), ∀ (x6 : Int) (hx6 : ev_rng x6), ∀ (s13 : ev_St) (w7 : List (Nat × Value)), ev_lk w7 0 = some (.ref k) → ev_lk w7 1 = some (.int (Int32.ofInt a0)) → ev_lk w7 2 = some (.int (Int32.ofInt x4)) → ev_lk w7 3 = some (.int (Int32.ofInt x5)) → ev_lk w7 4 = some (.int (Int32.ofInt x6)) → ev_w none (ev_Mof 68) d 16 w7 [] s13 (jl_68_16 Q k a0  q x4 x5 x6 s13) ev_eU ev_PU := by
  intro q
  induction q with
  | zero =>
    intro x4 hx4 x5 hx5 x6 hx6 s13 w7 e8 e9 e10 e11 e12
    exact ev_w_none
  | succ q ih => exact jbt_68_16 d hd Q k a0 hk ha0   _ ih
/-- MendBench$Pattern.tieRows(I)V -/
def jm_68 (Q : Nat) (k : Nat) (a0 : Int) (S : ev_St) : Option ((Unit) × ev_St) := ev_ck (4 * a0) fun x1 => ev_ck (x1 + 1) fun x2 => ev_if ((0 : Int) ≤ a0 ∧ a0 < (ev_aln ((k + 4)) : Int)) (ev_b (S.1 ((k + 4)) (Int.toNat a0)) fun x3 => jl_68_16 Q k a0  Q x2 x3 0 S)
theorem jt_68 (d : Nat) (hd : 2 ≤ d) (Q : Nat) (k : Nat) (a0 : Int) (hk : ev_isOb k 5 = true) (ha0 : ev_rng a0) (S : ev_St) (x : Unit) (S' : ev_St) (hJ : jm_68 Q k a0 S = some (x, S')) : ev_Ref d 68 [.ref k, .int (Int32.ofInt a0)] S (ev_eU x) S' (ev_PU x) := by
  obtain ⟨d, rfl⟩ : ∃ e, d = e + 1 := ⟨d - 1, by omega⟩
  refine ev_ref_of (P := ev_PU) (lv := [(0, .ref k), (1, .int (Int32.ofInt a0))]) (by decide +kernel) (by (try simp only [ev_sum, ev_nv_cat]); first | done | rfl) (by (try simp only [lv_args, ev_nv_cat]); first | done | rfl) ?_ x S' hJ
  unfold jm_68
  refine ev_r_iconst (pc := 0) (k := 4) (by decide +kernel) ?_
  refine ev_r_iload_n (pc := 1) (k := 1) (v := Int32.ofInt a0) (by decide +kernel) (by rfl) ?_
  refine ev_r_imul (pc := 2) (by decide +kernel) ?_
  intro x1 hx1
  refine ev_r_iconst (pc := 3) (k := 1) (by decide +kernel) ?_
  refine ev_r_iadd (pc := 4) (by decide +kernel) ?_
  intro x2 hx2
  refine ev_r_istore_n (pc := 5) (k := 2) (by decide +kernel) (by decide +kernel) rfl ?_
  refine ev_r_aload_n (pc := 6) (k := 0) (v := .ref k) trivial (by decide +kernel) (by exact (ev_l1 (by rfl) (by decide) (by decide))) ?_
  refine ev_r_getC (pc := 7) (y := 21) (ci := 5) (f := 3) (fin := 1) (k' := (k + 4)) (by decide +kernel) (by decide +kernel) (by exact hk) rfl rfl ?_
  refine ev_r_iload_n (pc := 10) (k := 1) (v := Int32.ofInt a0) (by decide +kernel) (by exact (ev_lk_st1 (by rfl) (by decide) rfl)) ?_
  refine ev_r_iald (pc := 11) ha0 (by decide +kernel) (by exact (ev_fo_5_3 hk)) ?_
  intro x3 hx3
  refine ev_r_istore_n (pc := 12) (k := 3) (by decide +kernel) (by decide +kernel) rfl ?_
  refine ev_r_iconst (pc := 13) (k := 0) (by decide +kernel) ?_
  refine ev_r_istore (pc := 14) (k := 4) (by decide +kernel) (by decide +kernel) rfl ?_
  exact jlt_68_16 d hd Q k a0 hk ha0   Q x2 hx2 x3 hx3 0 (by decide) S _ (by exact (ev_l1 (ev_l1 (ev_l1 (by rfl) (by decide) (by decide)) (by decide) (by decide)) (by decide) (by decide))) (by exact (ev_l1 (ev_l1 (ev_lk_st1 (by rfl) (by decide) rfl) (by decide) (by decide)) (by decide) (by decide))) (by exact (ev_l1 (ev_lk_st1 ev_lk_st1_self (by decide) rfl) (by decide) (by decide))) (by exact (ev_lk_st1 ev_lk_st1_self (by decide) rfl)) (by exact ev_lk_st1_self)
