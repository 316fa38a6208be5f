/-! METHODS as functions, laid by decomp.py -/
theorem ev_ab_666 : ev_isAb 666 1 .int = true := (by decide +kernel)
theorem ev_ab_667 : ev_isAb 667 1 .int = true := (by decide +kernel)
theorem ev_ab_668 : ev_isAb 668 1 .int = true := (by decide +kernel)
theorem ev_ab_662 : ev_isAb 662 1 .int = true := (by decide +kernel)
theorem ev_ab_663 : ev_isAb 663 1 .int = true := (by decide +kernel)
theorem ev_ab_664 : ev_isAb 664 1 .int = true := (by decide +kernel)
theorem ev_ab_665 : ev_isAb 665 1 .int = true := (by decide +kernel)
theorem ev_ab_639 : ev_isAb 639 1 .int = true := (by decide +kernel)
theorem ev_ab_658 : ev_isAb 658 1 .boolean = true := (by decide +kernel)
theorem ev_ab_660 : ev_isAb 660 1 .int = true := (by decide +kernel)
theorem ev_ab_661 : ev_isAb 661 1 .int = true := (by decide +kernel)
def jb_269_31 (Q : Nat) (a0 : Int)  (K31 : Int → Int → Int → ev_St → Option ((Int) × ev_St)) (x9 : Int) (x10 : Int) (x11 : Int) (s18 : ev_St) : Option ((Int) × ev_St) := ev_ck (320 * a0) fun x19 => ev_if ((0 : Int) ≤ a0 ∧ a0 < (ev_aln 635 : Int)) (ev_b (s18.1 635 (Int.toNat a0)) fun x20 => ev_ck (x19 + x20) fun x21 => if x21 ≤ x11 then (if x9 ≠ 0 then (if x10 = 0 then (some (3, s18)) else (some (1, s18))) else (some (0, s18))) else (ev_if ((0 : Int) ≤ x11 ∧ x11 < (ev_aln 625 : Int)) (ev_b (s18.1 625 (Int.toNat x11)) fun x25 => ev_jn (fun (x26 : Int) (s33 : ev_St) => ev_jn (fun (x34 : Int) (s40 : ev_St) => ev_jn (fun (x41 : Int) (x42 : Int) (s48 : ev_St) => ev_ck (x11 + 1) fun x49 => K31 x41 x42 x49 s48) fun K186 => ev_jn (fun (x50 : Int) (s56 : ev_St) => K186 x50 1 s56) fun K181 => if x10 ≠ 0 then (K181 x34 s40) else (ev_if ((0 : Int) ≤ x11 ∧ x11 < (ev_aln 625 : Int)) (ev_b (s40.1 625 (Int.toNat x11)) fun x58 => ev_bd (jm_222 Q x58 1 6 s40) fun x60 s59 => if x60 = 0 then (K186 x34 0 s59) else (K181 x34 s59)))) fun K160 => ev_jn (fun  (s67 : ev_St) => K160 0 s67) fun K159 => if x9 = 0 then (K159  s33) else (if x26 = 0 then (K159  s33) else (ev_if ((0 : Int) ≤ x11 ∧ x11 < (ev_aln 630 : Int)) (ev_b (s33.1 630 (Int.toNat x11)) fun x70 => if x70 = 2 then (K159  s33) else (ev_if ((0 : Int) ≤ x11 ∧ x11 < (ev_aln 630 : Int)) (ev_b (s33.1 630 (Int.toNat x11)) fun x72 => ev_jn (fun  (s78 : ev_St) => K160 1 s78) fun K155 => if x72 = (-1) then (K155  s33) else (ev_if ((0 : Int) ≤ x11 ∧ x11 < (ev_aln 632 : Int)) (ev_b (s33.1 632 (Int.toNat x11)) fun x80 => if x80 ≠ (-1) then (K155  s33) else (ev_if ((0 : Int) ≤ x11 ∧ x11 < (ev_aln 640 : Int)) (ev_b (s33.1 640 (Int.toNat x11)) fun x82 => if x82 ≤ 0 then (K159  s33) else (K155  s33))))))))))) fun K101 => ev_jn (fun  (s90 : ev_St) => K101 1 s90) fun K96 => if x25 < 7 then (K96  s18) else (ev_if ((0 : Int) ≤ x11 ∧ x11 < (ev_aln 625 : Int)) (ev_b (s18.1 625 (Int.toNat x11)) fun x92 => if x92 = 8 then (K96  s18) else (ev_if ((0 : Int) ≤ x11 ∧ x11 < (ev_aln 625 : Int)) (ev_b (s18.1 625 (Int.toNat x11)) fun x94 => if x94 = 9 then (K96  s18) else (ev_if ((0 : Int) ≤ x11 ∧ x11 < (ev_aln 625 : Int)) (ev_b (s18.1 625 (Int.toNat x11)) fun x96 => if x96 ≠ 18 then (K101 0 s18) else (K96  s18))))))))))
def jl_269_31 (Q : Nat) (a0 : Int)  : Nat → Int → Int → Int → ev_St → Option ((Int) × ev_St)
  | 0 => fun _ _ _ _ => none
  | q + 1 => jb_269_31 Q a0  (jl_269_31 Q a0  q)
theorem jbt_269_31 (d : Nat) (hd : 2 ≤ d + 1) (Q : Nat) (a0 : Int) (ha0 : ev_rng a0)   (K31 : Int → Int → Int → ev_St → Option ((Int) × ev_St)) (hK31 : ∀ (x9 : Int) (hx9 : ev_rng x9), ∀ (x10 : Int) (hx10 : ev_rng x10), ∀ (x11 : Int) (hx11 : ev_rng x11), ∀ (s18 : ev_St) (w12 : List (Nat × Value)), ev_lk w12 0 = some (.ref 621) → ev_lk w12 1 = some (.int (Int32.ofInt a0)) → ev_lk w12 2 = some (.int (Int32.ofInt x9)) → ev_lk w12 3 = some (.int (Int32.ofInt x10)) → ev_lk w12 4 = some (.int (Int32.ofInt x11)) → ev_w none (ev_Mof 269) d 31 w12 [] s18 (K31 x9 x10 x11 s18) ev_eI ev_rng) : ∀ (x9 : Int) (hx9 : ev_rng x9), ∀ (x10 : Int) (hx10 : ev_rng x10), ∀ (x11 : Int) (hx11 : ev_rng x11), ∀ (s18 : ev_St) (w12 : List (Nat × Value)), ev_lk w12 0 = some (.ref 621) → ev_lk w12 1 = some (.int (Int32.ofInt a0)) → ev_lk w12 2 = some (.int (Int32.ofInt x9)) → ev_lk w12 3 = some (.int (Int32.ofInt x10)) → ev_lk w12 4 = some (.int (Int32.ofInt x11)) → ev_w none (ev_Mof 269) d 31 w12 [] s18 (jb_269_31 Q a0  K31 x9 x10 x11 s18) ev_eI ev_rng := by
  intro x9 hx9 x10 hx10 x11 hx11 s18 w12 e13 e14 e15 e16 e17
  unfold jb_269_31
  refine ev_r_iload (pc := 31) (k := 4) (v := Int32.ofInt x11) (by decide +kernel) (by exact e17) ?_
  refine ev_r_sipush (pc := 33) (k := 320) (by decide +kernel) (by decide +kernel) ?_
  refine ev_r_iload_n (pc := 36) (k := 1) (v := Int32.ofInt a0) (by decide +kernel) (by exact e14) ?_
  refine ev_r_imul (pc := 37) (by decide +kernel) ?_
  intro x19 hx19
  refine ev_r_aload_n (pc := 38) (k := 0) (v := .ref 621) trivial (by decide +kernel) (by exact e13) ?_
  refine ev_r_getC (pc := 39) (y := 50) (ci := 13) (f := 16) (fin := 1) (k' := 635) (by decide +kernel) (by decide +kernel) (by exact ev_ob_621) rfl rfl ?_
  refine ev_r_iload_n (pc := 42) (k := 1) (v := Int32.ofInt a0) (by decide +kernel) (by exact e14) ?_
  refine ev_r_iald (pc := 43) ha0 (by decide +kernel) (by exact ev_ab_635) ?_
  intro x20 hx20
  refine ev_r_iadd (pc := 44) (by decide +kernel) ?_
  intro x21 hx21
  refine ev_r_icmp (pc := 45) (q := .ge) (o := 148) (t := 193) (c := x21 ≤ x11) (by decide +kernel) (ev_k_ge hx11 hx21) (by decide +kernel) ?_ ?_
  · intro c22
    refine ev_r_iload_n (pc := 193) (k := 2) (v := Int32.ofInt x9) (by decide +kernel) (by exact e15) ?_
    refine ev_r_if (pc := 194) (q := .ne) (o := 7) (t := 201) (c := x9 ≠ 0) (by decide +kernel) (ev_k_ne hx9 ev_rng0) (by decide +kernel) ?_ ?_
    · intro c23
      refine ev_r_iload_n (pc := 201) (k := 3) (v := Int32.ofInt x10) (by decide +kernel) (by exact e16) ?_
      refine ev_r_if (pc := 202) (q := .eq) (o := 7) (t := 209) (c := x10 = 0) (by decide +kernel) (ev_k_eq hx10 ev_rng0) (by decide +kernel) ?_ ?_
      · intro c24
        refine ev_r_iconst (pc := 209) (k := 3) (by decide +kernel) ?_
        exact ev_r_ireturn (pc := 210) (x := 3) (v := Int32.ofInt 3) (ty := .int) (by decide) (by decide +kernel) (by decide +kernel) rfl rfl
      · intro c24
        refine ev_r_iconst (pc := 205) (k := 1) (by decide +kernel) ?_
        refine ev_r_goto (pc := 206) (o := 4) (t := 210) (by decide +kernel) (by decide +kernel) ?_
        exact ev_r_ireturn (pc := 210) (x := 1) (v := Int32.ofInt 1) (ty := .int) (by decide) (by decide +kernel) (by decide +kernel) rfl rfl
    · intro c23
      refine ev_r_iconst (pc := 197) (k := 0) (by decide +kernel) ?_
      refine ev_r_goto (pc := 198) (o := 12) (t := 210) (by decide +kernel) (by decide +kernel) ?_
      exact ev_r_ireturn (pc := 210) (x := 0) (v := Int32.ofInt 0) (ty := .int) (by decide) (by decide +kernel) (by decide +kernel) rfl rfl
  · intro c22
    refine ev_r_aload_n (pc := 48) (k := 0) (v := .ref 621) trivial (by decide +kernel) (by exact e13) ?_
    refine ev_r_getC (pc := 49) (y := 19) (ci := 13) (f := 6) (fin := 1) (k' := 625) (by decide +kernel) (by decide +kernel) (by exact ev_ob_621) rfl rfl ?_
    refine ev_r_iload (pc := 52) (k := 4) (v := Int32.ofInt x11) (by decide +kernel) (by exact e17) ?_
    refine ev_r_iald (pc := 54) hx11 (by decide +kernel) (by exact ev_ab_625) ?_
    intro x25 hx25
    refine ev_r_bipush (pc := 55) (k := 7) (by decide +kernel) (by decide +kernel) ?_
    refine ev_r_jn (Q := fun K => ∀ (x26 : Int) (hx26 : ev_rng x26), ∀ (s33 : ev_St) (w27 : List (Nat × Value)), ev_lk w27 0 = some (.ref 621) → ev_lk w27 1 = some (.int (Int32.ofInt a0)) → ev_lk w27 2 = some (.int (Int32.ofInt x9)) → ev_lk w27 3 = some (.int (Int32.ofInt x10)) → ev_lk w27 4 = some (.int (Int32.ofInt x11)) → ev_w none (ev_Mof 269) d 101 w27 [.int (Int32.ofInt x26)] s33 (K x26 s33) ev_eI ev_rng) ?_ ?_
    · intro x26 hx26 s33 w27 e28 e29 e30 e31 e32
      refine ev_r_istore (pc := 101) (k := 5) (by decide +kernel) (by decide +kernel) rfl ?_
      refine ev_r_iload_n (pc := 103) (k := 2) (v := Int32.ofInt x9) (by decide +kernel) (by exact (ev_l1 e30 (by decide) (by decide))) ?_
      refine ev_r_jn (Q := fun K => ∀ (x34 : Int) (hx34 : ev_rng x34), ∀ (s40 : ev_St) (w35 : List (Nat × Value)), ev_lk w35 0 = some (.ref 621) → ev_lk w35 1 = some (.int (Int32.ofInt a0)) → ev_lk w35 3 = some (.int (Int32.ofInt x10)) → ev_lk w35 4 = some (.int (Int32.ofInt x11)) → ev_w none (ev_Mof 269) d 160 w35 [.int (Int32.ofInt x34)] s40 (K x34 s40) ev_eI ev_rng) ?_ ?_
      · intro x34 hx34 s40 w35 e36 e37 e38 e39
        refine ev_r_istore_n (pc := 160) (k := 2) (by decide +kernel) (by decide +kernel) rfl ?_
        refine ev_r_iload_n (pc := 161) (k := 3) (v := Int32.ofInt x10) (by decide +kernel) (by exact (ev_l1 e38 (by decide) (by decide))) ?_
        refine ev_r_jn (Q := fun K => ∀ (x41 : Int) (hx41 : ev_rng x41), ∀ (x42 : Int) (hx42 : ev_rng x42), ∀ (s48 : ev_St) (w43 : List (Nat × Value)), ev_lk w43 0 = some (.ref 621) → ev_lk w43 1 = some (.int (Int32.ofInt a0)) → ev_lk w43 2 = some (.int (Int32.ofInt x41)) → ev_lk w43 4 = some (.int (Int32.ofInt x11)) → ev_w none (ev_Mof 269) d 186 w43 [.int (Int32.ofInt x42)] s48 (K x41 x42 s48) ev_eI ev_rng) ?_ ?_
        · intro x41 hx41 x42 hx42 s48 w43 e44 e45 e46 e47
          refine ev_r_istore_n (pc := 186) (k := 3) (by decide +kernel) (by decide +kernel) rfl ?_
          refine ev_r_iinc (pc := 187) (k := 4) (c := 1) (x := x11) (by decide +kernel) (by decide +kernel) (by exact (ev_l1 e47 (by decide) (by decide))) (fun _ => rfl) ?_
          intro x49 hx49
          refine ev_r_goto (pc := 190) (o := (-159)) (t := 31) (by decide +kernel) (by decide +kernel) ?_
          exact hK31 x41 hx41 x42 hx42 x49 hx49 s48 _ (by exact (ev_l1 (ev_l1 e44 (by decide) (by decide)) (by decide) (by decide))) (by exact (ev_l1 (ev_l1 e45 (by decide) (by decide)) (by decide) (by decide))) (by exact (ev_l1 (ev_lk_st1 e46 (by decide) rfl) (by decide) (by decide))) (by exact (ev_lk_st1 ev_lk_st1_self (by decide) rfl)) (by exact ev_lk_st1_self)
        · intro K186 hK186
          refine ev_r_jn (Q := fun K => ∀ (x50 : Int) (hx50 : ev_rng x50), ∀ (s56 : ev_St) (w51 : List (Nat × Value)), ev_lk w51 0 = some (.ref 621) → ev_lk w51 1 = some (.int (Int32.ofInt a0)) → ev_lk w51 2 = some (.int (Int32.ofInt x50)) → ev_lk w51 4 = some (.int (Int32.ofInt x11)) → ev_w none (ev_Mof 269) d 181 w51 [] s56 (K x50 s56) ev_eI ev_rng) ?_ ?_
          · intro x50 hx50 s56 w51 e52 e53 e54 e55
            refine ev_r_iconst (pc := 181) (k := 1) (by decide +kernel) ?_
            refine ev_r_goto (pc := 182) (o := 4) (t := 186) (by decide +kernel) (by decide +kernel) ?_
            exact hK186 x50 hx50 1 (by decide) s56 _ (by exact e52) (by exact e53) (by exact e54) (by exact e55)
          · intro K181 hK181
            refine ev_r_if (pc := 162) (q := .ne) (o := 19) (t := 181) (c := x10 ≠ 0) (by decide +kernel) (ev_k_ne hx10 ev_rng0) (by decide +kernel) ?_ ?_
            · intro c57
              exact hK181 x34 hx34 s40 _ (by exact (ev_l1 e36 (by decide) (by decide))) (by exact (ev_lk_st1 e37 (by decide) rfl)) (by exact ev_lk_st1_self) (by exact (ev_l1 e39 (by decide) (by decide)))
            · intro c57
              refine ev_r_aload_n (pc := 165) (k := 0) (v := .ref 621) trivial (by decide +kernel) (by exact (ev_l1 e36 (by decide) (by decide))) ?_
              refine ev_r_getC (pc := 166) (y := 19) (ci := 13) (f := 6) (fin := 1) (k' := 625) (by decide +kernel) (by decide +kernel) (by exact ev_ob_621) rfl rfl ?_
              refine ev_r_iload (pc := 169) (k := 4) (v := Int32.ofInt x11) (by decide +kernel) (by exact (ev_l1 e39 (by decide) (by decide))) ?_
              refine ev_r_iald (pc := 171) hx11 (by decide +kernel) (by exact ev_ab_625) ?_
              intro x58 hx58
              refine ev_r_iconst (pc := 172) (k := 1) (by decide +kernel) ?_
              refine ev_r_bipush (pc := 173) (k := 6) (by decide +kernel) (by decide +kernel) ?_
              refine ev_r_stat (pc := 175) (y := 325) (kind := 2) (mi := 222) (na := 3) (as := [.int (Int32.ofInt x58), .int (Int32.ofInt 1), .int (Int32.ofInt 6)]) (rest := []) (encc := ev_oI) (Q := ev_bl) (fun x S1 h => jt_222 d (by omega) Q x58 1 6 hx58 (by decide) (by decide) s40 x S1 h) (Or.inl rfl) (by decide +kernel) (by decide +kernel) (by decide +kernel) (by decide +kernel) rfl (by (try simp only [ev_sum, ev_nv_cat]); first | done | rfl) ?_
              intro x60 s59 hx60
              replace hx60 := ev_bl_rng hx60
              show ev_w _ _ _ _ _ [.int (Int32.ofInt x60)] _ _ _ _
              refine ev_r_if (pc := 178) (q := .eq) (o := 7) (t := 185) (c := x60 = 0) (by decide +kernel) (ev_k_eq hx60 ev_rng0) (by decide +kernel) ?_ ?_
              · intro c61
                refine ev_r_iconst (pc := 185) (k := 0) (by decide +kernel) ?_
                exact hK186 x34 hx34 0 (by decide) s59 _ (by exact (ev_l1 e36 (by decide) (by decide))) (by exact (ev_lk_st1 e37 (by decide) rfl)) (by exact ev_lk_st1_self) (by exact (ev_l1 e39 (by decide) (by decide)))
              · intro c61
                exact hK181 x34 hx34 s59 _ (by exact (ev_l1 e36 (by decide) (by decide))) (by exact (ev_lk_st1 e37 (by decide) rfl)) (by exact ev_lk_st1_self) (by exact (ev_l1 e39 (by decide) (by decide)))
      · intro K160 hK160
        refine ev_r_jn (Q := fun K => ∀ (s67 : ev_St) (w62 : List (Nat × Value)), ev_lk w62 0 = some (.ref 621) → ev_lk w62 1 = some (.int (Int32.ofInt a0)) → ev_lk w62 3 = some (.int (Int32.ofInt x10)) → ev_lk w62 4 = some (.int (Int32.ofInt x11)) → ev_w none (ev_Mof 269) d 159 w62 [] s67 (K  s67) ev_eI ev_rng) ?_ ?_
        · intro  s67 w62 e63 e64 e65 e66
          refine ev_r_iconst (pc := 159) (k := 0) (by decide +kernel) ?_
          exact hK160 0 (by decide) s67 _ (by exact e63) (by exact e64) (by exact e65) (by exact e66)
        · intro K159 hK159
          refine ev_r_if (pc := 104) (q := .eq) (o := 55) (t := 159) (c := x9 = 0) (by decide +kernel) (ev_k_eq hx9 ev_rng0) (by decide +kernel) ?_ ?_
          · intro c68
            exact hK159  s33 _ (by exact (ev_l1 e28 (by decide) (by decide))) (by exact (ev_l1 e29 (by decide) (by decide))) (by exact (ev_l1 e31 (by decide) (by decide))) (by exact (ev_lk_st1 e32 (by decide) rfl))
          · intro c68
            refine ev_r_iload (pc := 107) (k := 5) (v := Int32.ofInt x26) (by decide +kernel) (by exact ev_lk_st1_self) ?_
            refine ev_r_if (pc := 109) (q := .eq) (o := 50) (t := 159) (c := x26 = 0) (by decide +kernel) (ev_k_eq hx26 ev_rng0) (by decide +kernel) ?_ ?_
            · intro c69
              exact hK159  s33 _ (by exact (ev_l1 e28 (by decide) (by decide))) (by exact (ev_l1 e29 (by decide) (by decide))) (by exact (ev_l1 e31 (by decide) (by decide))) (by exact (ev_lk_st1 e32 (by decide) rfl))
            · intro c69
              refine ev_r_aload_n (pc := 112) (k := 0) (v := .ref 621) trivial (by decide +kernel) (by exact (ev_l1 e28 (by decide) (by decide))) ?_
              refine ev_r_getC (pc := 113) (y := 34) (ci := 13) (f := 11) (fin := 1) (k' := 630) (by decide +kernel) (by decide +kernel) (by exact ev_ob_621) rfl rfl ?_
              refine ev_r_iload (pc := 116) (k := 4) (v := Int32.ofInt x11) (by decide +kernel) (by exact (ev_lk_st1 e32 (by decide) rfl)) ?_
              refine ev_r_iald (pc := 118) hx11 (by decide +kernel) (by exact ev_ab_630) ?_
              intro x70 hx70
              refine ev_r_iconst (pc := 119) (k := 2) (by decide +kernel) ?_
              refine ev_r_icmp (pc := 120) (q := .eq) (o := 39) (t := 159) (c := x70 = 2) (by decide +kernel) (ev_k_eq hx70 (by decide)) (by decide +kernel) ?_ ?_
              · intro c71
                exact hK159  s33 _ (by exact (ev_l1 e28 (by decide) (by decide))) (by exact (ev_l1 e29 (by decide) (by decide))) (by exact (ev_l1 e31 (by decide) (by decide))) (by exact (ev_lk_st1 e32 (by decide) rfl))
              · intro c71
                refine ev_r_aload_n (pc := 123) (k := 0) (v := .ref 621) trivial (by decide +kernel) (by exact (ev_l1 e28 (by decide) (by decide))) ?_
                refine ev_r_getC (pc := 124) (y := 34) (ci := 13) (f := 11) (fin := 1) (k' := 630) (by decide +kernel) (by decide +kernel) (by exact ev_ob_621) rfl rfl ?_
                refine ev_r_iload (pc := 127) (k := 4) (v := Int32.ofInt x11) (by decide +kernel) (by exact (ev_lk_st1 e32 (by decide) rfl)) ?_
                refine ev_r_iald (pc := 129) hx11 (by decide +kernel) (by exact ev_ab_630) ?_
                intro x72 hx72
                refine ev_r_iconst (pc := 130) (k := -1) (by decide +kernel) ?_
                refine ev_r_jn (Q := fun K => ∀ (s78 : ev_St) (w73 : List (Nat × Value)), ev_lk w73 0 = some (.ref 621) → ev_lk w73 1 = some (.int (Int32.ofInt a0)) → ev_lk w73 3 = some (.int (Int32.ofInt x10)) → ev_lk w73 4 = some (.int (Int32.ofInt x11)) → ev_w none (ev_Mof 269) d 155 w73 [] s78 (K  s78) ev_eI ev_rng) ?_ ?_
                · intro  s78 w73 e74 e75 e76 e77
                  refine ev_r_iconst (pc := 155) (k := 1) (by decide +kernel) ?_
                  refine ev_r_goto (pc := 156) (o := 4) (t := 160) (by decide +kernel) (by decide +kernel) ?_
                  exact hK160 1 (by decide) s78 _ (by exact e74) (by exact e75) (by exact e76) (by exact e77)
                · intro K155 hK155
                  refine ev_r_icmp (pc := 131) (q := .eq) (o := 24) (t := 155) (c := x72 = (-1)) (by decide +kernel) (ev_k_eq hx72 (by decide)) (by decide +kernel) ?_ ?_
                  · intro c79
                    exact hK155  s33 _ (by exact (ev_l1 e28 (by decide) (by decide))) (by exact (ev_l1 e29 (by decide) (by decide))) (by exact (ev_l1 e31 (by decide) (by decide))) (by exact (ev_lk_st1 e32 (by decide) rfl))
                  · intro c79
                    refine ev_r_aload_n (pc := 134) (k := 0) (v := .ref 621) trivial (by decide +kernel) (by exact (ev_l1 e28 (by decide) (by decide))) ?_
                    refine ev_r_getC (pc := 135) (y := 40) (ci := 13) (f := 13) (fin := 1) (k' := 632) (by decide +kernel) (by decide +kernel) (by exact ev_ob_621) rfl rfl ?_
                    refine ev_r_iload (pc := 138) (k := 4) (v := Int32.ofInt x11) (by decide +kernel) (by exact (ev_lk_st1 e32 (by decide) rfl)) ?_
                    refine ev_r_iald (pc := 140) hx11 (by decide +kernel) (by exact ev_ab_632) ?_
                    intro x80 hx80
                    refine ev_r_iconst (pc := 141) (k := -1) (by decide +kernel) ?_
                    refine ev_r_icmp (pc := 142) (q := .ne) (o := 13) (t := 155) (c := x80 ≠ (-1)) (by decide +kernel) (ev_k_ne hx80 (by decide)) (by decide +kernel) ?_ ?_
                    · intro c81
                      exact hK155  s33 _ (by exact (ev_l1 e28 (by decide) (by decide))) (by exact (ev_l1 e29 (by decide) (by decide))) (by exact (ev_l1 e31 (by decide) (by decide))) (by exact (ev_lk_st1 e32 (by decide) rfl))
                    · intro c81
                      refine ev_r_aload_n (pc := 145) (k := 0) (v := .ref 621) trivial (by decide +kernel) (by exact (ev_l1 e28 (by decide) (by decide))) ?_
                      refine ev_r_getC (pc := 146) (y := 65) (ci := 13) (f := 21) (fin := 1) (k' := 640) (by decide +kernel) (by decide +kernel) (by exact ev_ob_621) rfl rfl ?_
                      refine ev_r_iload (pc := 149) (k := 4) (v := Int32.ofInt x11) (by decide +kernel) (by exact (ev_lk_st1 e32 (by decide) rfl)) ?_
                      refine ev_r_iald (pc := 151) hx11 (by decide +kernel) (by exact ev_ab_640) ?_
                      intro x82 hx82
                      refine ev_r_if (pc := 152) (q := .le) (o := 7) (t := 159) (c := x82 ≤ 0) (by decide +kernel) (ev_k_le hx82 ev_rng0) (by decide +kernel) ?_ ?_
                      · intro c83
                        exact hK159  s33 _ (by exact (ev_l1 e28 (by decide) (by decide))) (by exact (ev_l1 e29 (by decide) (by decide))) (by exact (ev_l1 e31 (by decide) (by decide))) (by exact (ev_lk_st1 e32 (by decide) rfl))
                      · intro c83
                        exact hK155  s33 _ (by exact (ev_l1 e28 (by decide) (by decide))) (by exact (ev_l1 e29 (by decide) (by decide))) (by exact (ev_l1 e31 (by decide) (by decide))) (by exact (ev_lk_st1 e32 (by decide) rfl))
    · intro K101 hK101
      refine ev_r_jn (Q := fun K => ∀ (s90 : ev_St) (w84 : List (Nat × Value)), ev_lk w84 0 = some (.ref 621) → ev_lk w84 1 = some (.int (Int32.ofInt a0)) → ev_lk w84 2 = some (.int (Int32.ofInt x9)) → ev_lk w84 3 = some (.int (Int32.ofInt x10)) → ev_lk w84 4 = some (.int (Int32.ofInt x11)) → ev_w none (ev_Mof 269) d 96 w84 [] s90 (K  s90) ev_eI ev_rng) ?_ ?_
      · intro  s90 w84 e85 e86 e87 e88 e89
        refine ev_r_iconst (pc := 96) (k := 1) (by decide +kernel) ?_
        refine ev_r_goto (pc := 97) (o := 4) (t := 101) (by decide +kernel) (by decide +kernel) ?_
        exact hK101 1 (by decide) s90 _ (by exact e85) (by exact e86) (by exact e87) (by exact e88) (by exact e89)
      · intro K96 hK96
        refine ev_r_icmp (pc := 57) (q := .lt) (o := 39) (t := 96) (c := x25 < 7) (by decide +kernel) (ev_k_lt hx25 (by decide)) (by decide +kernel) ?_ ?_
        · intro c91
          exact hK96  s18 _ (by exact e13) (by exact e14) (by exact e15) (by exact e16) (by exact e17)
        · intro c91
          refine ev_r_aload_n (pc := 60) (k := 0) (v := .ref 621) trivial (by decide +kernel) (by exact e13) ?_
          refine ev_r_getC (pc := 61) (y := 19) (ci := 13) (f := 6) (fin := 1) (k' := 625) (by decide +kernel) (by decide +kernel) (by exact ev_ob_621) rfl rfl ?_
          refine ev_r_iload (pc := 64) (k := 4) (v := Int32.ofInt x11) (by decide +kernel) (by exact e17) ?_
          refine ev_r_iald (pc := 66) hx11 (by decide +kernel) (by exact ev_ab_625) ?_
          intro x92 hx92
          refine ev_r_bipush (pc := 67) (k := 8) (by decide +kernel) (by decide +kernel) ?_
          refine ev_r_icmp (pc := 69) (q := .eq) (o := 27) (t := 96) (c := x92 = 8) (by decide +kernel) (ev_k_eq hx92 (by decide)) (by decide +kernel) ?_ ?_
          · intro c93
            exact hK96  s18 _ (by exact e13) (by exact e14) (by exact e15) (by exact e16) (by exact e17)
          · intro c93
            refine ev_r_aload_n (pc := 72) (k := 0) (v := .ref 621) trivial (by decide +kernel) (by exact e13) ?_
            refine ev_r_getC (pc := 73) (y := 19) (ci := 13) (f := 6) (fin := 1) (k' := 625) (by decide +kernel) (by decide +kernel) (by exact ev_ob_621) rfl rfl ?_
            refine ev_r_iload (pc := 76) (k := 4) (v := Int32.ofInt x11) (by decide +kernel) (by exact e17) ?_
            refine ev_r_iald (pc := 78) hx11 (by decide +kernel) (by exact ev_ab_625) ?_
            intro x94 hx94
            refine ev_r_bipush (pc := 79) (k := 9) (by decide +kernel) (by decide +kernel) ?_
            refine ev_r_icmp (pc := 81) (q := .eq) (o := 15) (t := 96) (c := x94 = 9) (by decide +kernel) (ev_k_eq hx94 (by decide)) (by decide +kernel) ?_ ?_
            · intro c95
              exact hK96  s18 _ (by exact e13) (by exact e14) (by exact e15) (by exact e16) (by exact e17)
            · intro c95
              refine ev_r_aload_n (pc := 84) (k := 0) (v := .ref 621) trivial (by decide +kernel) (by exact e13) ?_
              refine ev_r_getC (pc := 85) (y := 19) (ci := 13) (f := 6) (fin := 1) (k' := 625) (by decide +kernel) (by decide +kernel) (by exact ev_ob_621) rfl rfl ?_
              refine ev_r_iload (pc := 88) (k := 4) (v := Int32.ofInt x11) (by decide +kernel) (by exact e17) ?_
              refine ev_r_iald (pc := 90) hx11 (by decide +kernel) (by exact ev_ab_625) ?_
              intro x96 hx96
              refine ev_r_bipush (pc := 91) (k := 18) (by decide +kernel) (by decide +kernel) ?_
              refine ev_r_icmp (pc := 93) (q := .ne) (o := 7) (t := 100) (c := x96 ≠ 18) (by decide +kernel) (ev_k_ne hx96 (by decide)) (by decide +kernel) ?_ ?_
              · intro c97
                refine ev_r_iconst (pc := 100) (k := 0) (by decide +kernel) ?_
                exact hK101 0 (by decide) s18 _ (by exact e13) (by exact e14) (by exact e15) (by exact e16) (by exact e17)
              · intro c97
                exact hK96  s18 _ (by exact e13) (by exact e14) (by exact e15) (by exact e16) (by exact e17)
theorem jlt_269_31 (d : Nat) (hd : 2 ≤ d + 1) (Q : Nat) (a0 : Int) (ha0 : ev_rng a0)   : ∀ q : Nat, ∀ (x9 : Int) (hx9 : ev_rng x9), ∀ (x10 : Int) (hx10 : ev_rng x10), ∀ (x11 : Int) (hx11 : ev_rng x11), ∀ (s18 : ev_St) (w12 : List (Nat × Value)), ev_lk w12 0 = some (.ref 621) → ev_lk w12 1 = some (.int (Int32.ofInt a0)) → ev_lk w12 2 = some (.int (Int32.ofInt x9)) → ev_lk w12 3 = some (.int (Int32.ofInt x10)) → ev_lk w12 4 = some (.int (Int32.ofInt x11)) → ev_w none (ev_Mof 269) d 31 w12 [] s18 (jl_269_31 Q a0  q x9 x10 x11 s18) ev_eI ev_rng := by
  intro q
  induction q with
  | zero =>
    intro x9 hx9 x10 hx10 x11 hx11 s18 w12 e13 e14 e15 e16 e17
    exact ev_w_none
  | succ q ih => exact jbt_269_31 d hd Q a0 ha0   _ ih
/-- MendBenchModel.enginesOf(I)I -/
def jm_269 (Q : Nat) (a0 : Int) (S : ev_St) : Option ((Int) × ev_St) := ev_ck (320 * a0) fun x1 => ev_if ((0 : Int) ≤ x1 ∧ x1 < (ev_aln 643 : Int)) (ev_b (S.1 643 (Int.toNat x1)) fun x2 => ev_jn (fun (x3 : Int) (s7 : ev_St) => ev_ck (320 * a0) fun x8 => jl_269_31 Q a0  Q x3 0 x8 s7) fun K21 => if 200 < x2 then (K21 0 S) else (K21 1 S))
theorem jt_269 (d : Nat) (hd : 2 ≤ d) (Q : Nat) (a0 : Int) (ha0 : ev_rng a0) (S : ev_St) (x : Int) (S' : ev_St) (hJ : jm_269 Q a0 S = some (x, S')) : ev_Ref d 269 [.ref 621, .int (Int32.ofInt a0)] S (ev_eI x) S' (ev_rng x) := by
  obtain ⟨d, rfl⟩ : ∃ e, d = e + 1 := ⟨d - 1, by omega⟩
  refine ev_ref_of (P := ev_rng) (lv := [(0, .ref 621), (1, .int (Int32.ofInt a0))]) (by decide +kernel) (by (try simp only [ev_sum, ev_nv_cat]); first | done | rfl) (by (try simp only [lv_args, ev_nv_cat]); first | done | rfl) ?_ x S' hJ
  unfold jm_269
  refine ev_r_aload_n (pc := 0) (k := 0) (v := .ref 621) trivial (by decide +kernel) (by rfl) ?_
  refine ev_r_getC (pc := 1) (y := 74) (ci := 13) (f := 24) (fin := 1) (k' := 643) (by decide +kernel) (by decide +kernel) (by exact ev_ob_621) rfl rfl ?_
  refine ev_r_sipush (pc := 4) (k := 320) (by decide +kernel) (by decide +kernel) ?_
  refine ev_r_iload_n (pc := 7) (k := 1) (v := Int32.ofInt a0) (by decide +kernel) (by rfl) ?_
  refine ev_r_imul (pc := 8) (by decide +kernel) ?_
  intro x1 hx1
  refine ev_r_iald (pc := 9) hx1 (by decide +kernel) (by exact ev_ab_643) ?_
  intro x2 hx2
  refine ev_r_sipush (pc := 10) (k := 200) (by decide +kernel) (by decide +kernel) ?_
  refine ev_r_jn (Q := fun K => ∀ (x3 : Int) (hx3 : ev_rng x3), ∀ (s7 : ev_St) (w4 : List (Nat × Value)), ev_lk w4 0 = some (.ref 621) → ev_lk w4 1 = some (.int (Int32.ofInt a0)) → ev_w none (ev_Mof 269) d 21 w4 [.int (Int32.ofInt x3)] s7 (K x3 s7) ev_eI ev_rng) ?_ ?_
  · intro x3 hx3 s7 w4 e5 e6
    refine ev_r_istore_n (pc := 21) (k := 2) (by decide +kernel) (by decide +kernel) rfl ?_
    refine ev_r_iconst (pc := 22) (k := 0) (by decide +kernel) ?_
    refine ev_r_istore_n (pc := 23) (k := 3) (by decide +kernel) (by decide +kernel) rfl ?_
    refine ev_r_sipush (pc := 24) (k := 320) (by decide +kernel) (by decide +kernel) ?_
    refine ev_r_iload_n (pc := 27) (k := 1) (v := Int32.ofInt a0) (by decide +kernel) (by exact (ev_l1 (ev_lk_st1 e6 (by decide) rfl) (by decide) (by decide))) ?_
    refine ev_r_imul (pc := 28) (by decide +kernel) ?_
    intro x8 hx8
    refine ev_r_istore (pc := 29) (k := 4) (by decide +kernel) (by decide +kernel) rfl ?_
    exact jlt_269_31 d hd Q a0 ha0   Q x3 hx3 0 (by decide) x8 hx8 s7 _ (by exact (ev_l1 (ev_l1 (ev_l1 e5 (by decide) (by decide)) (by decide) (by decide)) (by decide) (by decide))) (by exact (ev_l1 (ev_l1 (ev_lk_st1 e6 (by decide) rfl) (by decide) (by decide)) (by decide) (by decide))) (by exact (ev_l1 (ev_lk_st1 ev_lk_st1_self (by decide) rfl) (by decide) (by decide))) (by exact (ev_lk_st1 ev_lk_st1_self (by decide) rfl)) (by exact ev_lk_st1_self)
  · intro K21 hK21
    refine ev_r_icmp (pc := 13) (q := .gt) (o := 7) (t := 20) (c := 200 < x2) (by decide +kernel) (ev_k_gt hx2 (by decide)) (by decide +kernel) ?_ ?_
    · intro c98
      refine ev_r_iconst (pc := 20) (k := 0) (by decide +kernel) ?_
      exact hK21 0 (by decide) S _ (by rfl) (by rfl)
    · intro c98
      refine ev_r_iconst (pc := 16) (k := 1) (by decide +kernel) ?_
      refine ev_r_goto (pc := 17) (o := 4) (t := 21) (by decide +kernel) (by decide +kernel) ?_
      exact hK21 1 (by decide) S _ (by rfl) (by rfl)
/-- MendBenchModel.asks1(III)V -/
def jm_310 (Q : Nat) (a0 : Int) (a1 : Int) (a2 : Int) (S : ev_St) : Option ((Unit) × ev_St) := ev_b (S.1 621 59) fun x1 => ev_if ((0 : Int) ≤ x1 ∧ x1 < (ev_aln 666 : Int)) (ev_b (ev_pI S 666 (Int.toNat x1) a0) fun s2 => ev_b (s2.1 621 59) fun x3 => ev_if ((0 : Int) ≤ x3 ∧ x3 < (ev_aln 667 : Int)) (ev_b (ev_pI s2 667 (Int.toNat x3) a1) fun s4 => ev_b (s4.1 621 59) fun x5 => ev_if ((0 : Int) ≤ x5 ∧ x5 < (ev_aln 668 : Int)) (ev_b (ev_pI s4 668 (Int.toNat x5) a2) fun s6 => ev_b (s6.1 621 59) fun x7 => ev_ck (x7 + 1) fun x8 => ev_b (ev_pI s6 621 59 x8) fun s9 => some ((), s9))))
theorem jt_310 (d : Nat) (hd : 1 ≤ d) (Q : Nat) (a0 : Int) (a1 : Int) (a2 : Int) (ha0 : ev_rng a0) (ha1 : ev_rng a1) (ha2 : ev_rng a2) (S : ev_St) (x : Unit) (S' : ev_St) (hJ : jm_310 Q a0 a1 a2 S = some (x, S')) : ev_Ref d 310 [.ref 621, .int (Int32.ofInt a0), .int (Int32.ofInt a1), .int (Int32.ofInt a2)] S (ev_eU x) S' (ev_PU x) := by
  obtain ⟨d, rfl⟩ : ∃ e, d = e + 1 := ⟨d - 1, by omega⟩
  refine ev_ref_of (P := ev_PU) (lv := [(0, .ref 621), (1, .int (Int32.ofInt a0)), (2, .int (Int32.ofInt a1)), (3, .int (Int32.ofInt a2))]) (by decide +kernel) (by (try simp only [ev_sum, ev_nv_cat]); first | done | rfl) (by (try simp only [lv_args, ev_nv_cat]); first | done | rfl) ?_ x S' hJ
  unfold jm_310
  refine ev_r_aload_n (pc := 0) (k := 0) (v := .ref 621) trivial (by decide +kernel) (by rfl) ?_
  refine ev_r_getC (pc := 1) (y := 144) (ci := 13) (f := 60) (fin := 1) (k' := 666) (by decide +kernel) (by decide +kernel) (by exact ev_ob_621) rfl rfl ?_
  refine ev_r_aload_n (pc := 4) (k := 0) (v := .ref 621) trivial (by decide +kernel) (by rfl) ?_
  refine ev_r_getI (pc := 5) (y := 676) (ci := 13) (f := 59) (fin := 0) (by decide +kernel) (by decide +kernel) (by exact ev_ob_621) rfl ?_
  intro x1 hx1
  refine ev_r_iload_n (pc := 8) (k := 1) (v := Int32.ofInt a0) (by decide +kernel) (by rfl) ?_
  refine ev_r_iast (pc := 9) ha0 hx1 (by decide +kernel) (by exact ev_ab_666) ?_
  intro s2
  refine ev_r_aload_n (pc := 10) (k := 0) (v := .ref 621) trivial (by decide +kernel) (by rfl) ?_
  refine ev_r_getC (pc := 11) (y := 147) (ci := 13) (f := 61) (fin := 1) (k' := 667) (by decide +kernel) (by decide +kernel) (by exact ev_ob_621) rfl rfl ?_
  refine ev_r_aload_n (pc := 14) (k := 0) (v := .ref 621) trivial (by decide +kernel) (by rfl) ?_
  refine ev_r_getI (pc := 15) (y := 676) (ci := 13) (f := 59) (fin := 0) (by decide +kernel) (by decide +kernel) (by exact ev_ob_621) rfl ?_
  intro x3 hx3
  refine ev_r_iload_n (pc := 18) (k := 2) (v := Int32.ofInt a1) (by decide +kernel) (by rfl) ?_
  refine ev_r_iast (pc := 19) ha1 hx3 (by decide +kernel) (by exact ev_ab_667) ?_
  intro s4
  refine ev_r_aload_n (pc := 20) (k := 0) (v := .ref 621) trivial (by decide +kernel) (by rfl) ?_
  refine ev_r_getC (pc := 21) (y := 150) (ci := 13) (f := 62) (fin := 1) (k' := 668) (by decide +kernel) (by decide +kernel) (by exact ev_ob_621) rfl rfl ?_
  refine ev_r_aload_n (pc := 24) (k := 0) (v := .ref 621) trivial (by decide +kernel) (by rfl) ?_
  refine ev_r_getI (pc := 25) (y := 676) (ci := 13) (f := 59) (fin := 0) (by decide +kernel) (by decide +kernel) (by exact ev_ob_621) rfl ?_
  intro x5 hx5
  refine ev_r_iload_n (pc := 28) (k := 3) (v := Int32.ofInt a2) (by decide +kernel) (by rfl) ?_
  refine ev_r_iast (pc := 29) ha2 hx5 (by decide +kernel) (by exact ev_ab_668) ?_
  intro s6
  refine ev_r_aload_n (pc := 30) (k := 0) (v := .ref 621) trivial (by decide +kernel) (by rfl) ?_
  refine ev_r_dup (pc := 31) rfl (by decide +kernel) ?_
  refine ev_r_getI (pc := 32) (y := 676) (ci := 13) (f := 59) (fin := 0) (by decide +kernel) (by decide +kernel) (by exact ev_ob_621) rfl ?_
  intro x7 hx7
  refine ev_r_iconst (pc := 35) (k := 1) (by decide +kernel) ?_
  refine ev_r_iadd (pc := 36) (by decide +kernel) ?_
  intro x8 hx8
  refine ev_r_putI (pc := 37) (y := 676) (ci := 13) (f := 59) hx8 (by decide +kernel) (by decide +kernel) (by exact ev_ob_621) rfl rfl ?_
  intro s9
  exact ev_r_return (pc := 40) (x := ()) trivial (by decide +kernel) (by decide +kernel) rfl
/-- MendBenchModel.emits(IIII)I -/
def jm_309 (Q : Nat) (a0 : Int) (a1 : Int) (a2 : Int) (a3 : Int) (S : ev_St) : Option ((Int) × ev_St) := ev_ck (210 * a0) fun x1 => ev_b (S.1 621 54) fun x2 => ev_ck (x1 + x2) fun x3 => ev_if ((0 : Int) ≤ x3 ∧ x3 < (ev_aln 662 : Int)) (ev_b (ev_pI S 662 (Int.toNat x3) a1) fun s4 => ev_if ((0 : Int) ≤ x3 ∧ x3 < (ev_aln 663 : Int)) (ev_b (ev_pI s4 663 (Int.toNat x3) a2) fun s5 => ev_if ((0 : Int) ≤ x3 ∧ x3 < (ev_aln 664 : Int)) (ev_b (ev_pI s5 664 (Int.toNat x3) a3) fun s6 => ev_b (s6.1 621 54) fun x7 => ev_ck (x7 + 1) fun x8 => ev_b (ev_pI s6 621 54 x8) fun s9 => ev_b (s9.1 621 54) fun x10 => ev_ck (x10 - 1) fun x11 => some (x11, s9))))
theorem jt_309 (d : Nat) (hd : 1 ≤ d) (Q : Nat) (a0 : Int) (a1 : Int) (a2 : Int) (a3 : Int) (ha0 : ev_rng a0) (ha1 : ev_rng a1) (ha2 : ev_rng a2) (ha3 : ev_rng a3) (S : ev_St) (x : Int) (S' : ev_St) (hJ : jm_309 Q a0 a1 a2 a3 S = some (x, S')) : ev_Ref d 309 [.ref 621, .int (Int32.ofInt a0), .int (Int32.ofInt a1), .int (Int32.ofInt a2), .int (Int32.ofInt a3)] S (ev_eI x) S' (ev_rng x) := by
  obtain ⟨d, rfl⟩ : ∃ e, d = e + 1 := ⟨d - 1, by omega⟩
  refine ev_ref_of (P := ev_rng) (lv := [(0, .ref 621), (1, .int (Int32.ofInt a0)), (2, .int (Int32.ofInt a1)), (3, .int (Int32.ofInt a2)), (4, .int (Int32.ofInt a3))]) (by decide +kernel) (by (try simp only [ev_sum, ev_nv_cat]); first | done | rfl) (by (try simp only [lv_args, ev_nv_cat]); first | done | rfl) ?_ x S' hJ
  unfold jm_309
  refine ev_r_sipush (pc := 0) (k := 210) (by decide +kernel) (by decide +kernel) ?_
  refine ev_r_iload_n (pc := 3) (k := 1) (v := Int32.ofInt a0) (by decide +kernel) (by rfl) ?_
  refine ev_r_imul (pc := 4) (by decide +kernel) ?_
  intro x1 hx1
  refine ev_r_aload_n (pc := 5) (k := 0) (v := .ref 621) trivial (by decide +kernel) (by rfl) ?_
  refine ev_r_getI (pc := 6) (y := 673) (ci := 13) (f := 54) (fin := 0) (by decide +kernel) (by decide +kernel) (by exact ev_ob_621) rfl ?_
  intro x2 hx2
  refine ev_r_iadd (pc := 9) (by decide +kernel) ?_
  intro x3 hx3
  refine ev_r_istore (pc := 10) (k := 5) (by decide +kernel) (by decide +kernel) rfl ?_
  refine ev_r_aload_n (pc := 12) (k := 0) (v := .ref 621) trivial (by decide +kernel) (by exact (ev_l1 (by rfl) (by decide) (by decide))) ?_
  refine ev_r_getC (pc := 13) (y := 132) (ci := 13) (f := 55) (fin := 1) (k' := 662) (by decide +kernel) (by decide +kernel) (by exact ev_ob_621) rfl rfl ?_
  refine ev_r_iload (pc := 16) (k := 5) (v := Int32.ofInt x3) (by decide +kernel) (by exact ev_lk_st1_self) ?_
  refine ev_r_iload_n (pc := 18) (k := 2) (v := Int32.ofInt a1) (by decide +kernel) (by exact (ev_l1 (by rfl) (by decide) (by decide))) ?_
  refine ev_r_iast (pc := 19) ha1 hx3 (by decide +kernel) (by exact ev_ab_662) ?_
  intro s4
  refine ev_r_aload_n (pc := 20) (k := 0) (v := .ref 621) trivial (by decide +kernel) (by exact (ev_l1 (by rfl) (by decide) (by decide))) ?_
  refine ev_r_getC (pc := 21) (y := 135) (ci := 13) (f := 56) (fin := 1) (k' := 663) (by decide +kernel) (by decide +kernel) (by exact ev_ob_621) rfl rfl ?_
  refine ev_r_iload (pc := 24) (k := 5) (v := Int32.ofInt x3) (by decide +kernel) (by exact ev_lk_st1_self) ?_
  refine ev_r_iload_n (pc := 26) (k := 3) (v := Int32.ofInt a2) (by decide +kernel) (by exact (ev_l1 (by rfl) (by decide) (by decide))) ?_
  refine ev_r_iast (pc := 27) ha2 hx3 (by decide +kernel) (by exact ev_ab_663) ?_
  intro s5
  refine ev_r_aload_n (pc := 28) (k := 0) (v := .ref 621) trivial (by decide +kernel) (by exact (ev_l1 (by rfl) (by decide) (by decide))) ?_
  refine ev_r_getC (pc := 29) (y := 138) (ci := 13) (f := 57) (fin := 1) (k' := 664) (by decide +kernel) (by decide +kernel) (by exact ev_ob_621) rfl rfl ?_
  refine ev_r_iload (pc := 32) (k := 5) (v := Int32.ofInt x3) (by decide +kernel) (by exact ev_lk_st1_self) ?_
  refine ev_r_iload (pc := 34) (k := 4) (v := Int32.ofInt a3) (by decide +kernel) (by exact (ev_lk_st1 (by rfl) (by decide) rfl)) ?_
  refine ev_r_iast (pc := 36) ha3 hx3 (by decide +kernel) (by exact ev_ab_664) ?_
  intro s6
  refine ev_r_aload_n (pc := 37) (k := 0) (v := .ref 621) trivial (by decide +kernel) (by exact (ev_l1 (by rfl) (by decide) (by decide))) ?_
  refine ev_r_dup (pc := 38) rfl (by decide +kernel) ?_
  refine ev_r_getI (pc := 39) (y := 673) (ci := 13) (f := 54) (fin := 0) (by decide +kernel) (by decide +kernel) (by exact ev_ob_621) rfl ?_
  intro x7 hx7
  refine ev_r_iconst (pc := 42) (k := 1) (by decide +kernel) ?_
  refine ev_r_iadd (pc := 43) (by decide +kernel) ?_
  intro x8 hx8
  refine ev_r_putI (pc := 44) (y := 673) (ci := 13) (f := 54) hx8 (by decide +kernel) (by decide +kernel) (by exact ev_ob_621) rfl rfl ?_
  intro s9
  refine ev_r_aload_n (pc := 47) (k := 0) (v := .ref 621) trivial (by decide +kernel) (by exact (ev_l1 (by rfl) (by decide) (by decide))) ?_
  refine ev_r_getI (pc := 48) (y := 673) (ci := 13) (f := 54) (fin := 0) (by decide +kernel) (by decide +kernel) (by exact ev_ob_621) rfl ?_
  intro x10 hx10
  refine ev_r_iconst (pc := 51) (k := 1) (by decide +kernel) ?_
  refine ev_r_isub (pc := 52) (by decide +kernel) ?_
  intro x11 hx11
  exact ev_r_ireturn (pc := 53) (x := x11) (v := Int32.ofInt x11) (ty := .int) hx11 (by decide +kernel) (by decide +kernel) rfl rfl
/-- MendBenchModel.copies(III)V -/
def jm_311 (Q : Nat) (a0 : Int) (a1 : Int) (a2 : Int) (S : ev_St) : Option ((Unit) × ev_St) := ev_if ((0 : Int) ≤ a1 ∧ a1 < (ev_aln 631 : Int)) (ev_b (S.1 631 (Int.toNat a1)) fun x1 => if x1 ≤ a2 then (ev_if ((0 : Int) ≤ a1 ∧ a1 < (ev_aln 632 : Int)) (ev_b (S.1 632 (Int.toNat a1)) fun x3 => ev_jn (fun  (s9 : ev_St) => ev_b (s9.1 621 54) fun x10 => ev_ck (x10 + 1) fun x11 => ev_b (s9.1 621 54) fun x12 => ev_ck (x12 + 1) fun x13 => ev_bd (jm_309 Q a0 2 x11 x13 s9) fun x15 s14 => ev_if ((0 : Int) ≤ a1 ∧ a1 < (ev_aln 632 : Int)) (ev_b (s14.1 632 (Int.toNat a1)) fun x16 => ev_jn (fun (x17 : Int) (x18 : Int) (s24 : ev_St) => ev_bd (jm_310 Q x18 a1 x17 s24) fun _ s25 => ev_if ((0 : Int) ≤ a1 ∧ a1 < (ev_aln 632 : Int)) (ev_b (s25.1 632 (Int.toNat a1)) fun x26 => ev_jn (fun  (s30 : ev_St) => ev_bd (jm_310 Q 1 a1 0 s30) fun _ s31 => some ((), s31)) fun K111 => if x26 = (-1) then (K111  s25) else (ev_ck (a2 + 1) fun x33 => ev_bd (jm_310 Q 3 a1 x33 s25) fun _ s34 => K111  s34))) fun K86 => if x16 ≠ (-1) then (K86 x15 6 s14) else (K86 x15 5 s14))) fun K49 => if x3 = (-1) then (K49  S) else (ev_if ((0 : Int) ≤ a1 ∧ a1 < (ev_aln 632 : Int)) (ev_b (S.1 632 (Int.toNat a1)) fun x37 => if x37 ≤ a2 then (some ((), S)) else (K49  S))))) else (ev_ck (a2 + 1) fun x39 => ev_bd (jm_310 Q 3 a1 x39 S) fun _ s40 => ev_bd (jm_310 Q 1 a1 0 s40) fun _ s41 => some ((), s41)))
theorem jt_311 (d : Nat) (hd : 2 ≤ d) (Q : Nat) (a0 : Int) (a1 : Int) (a2 : Int) (ha0 : ev_rng a0) (ha1 : ev_rng a1) (ha2 : ev_rng a2) (S : ev_St) (x : Unit) (S' : ev_St) (hJ : jm_311 Q a0 a1 a2 S = some (x, S')) : ev_Ref d 311 [.ref 621, .int (Int32.ofInt a0), .int (Int32.ofInt a1), .int (Int32.ofInt a2)] S (ev_eU x) S' (ev_PU x) := by
  obtain ⟨d, rfl⟩ : ∃ e, d = e + 1 := ⟨d - 1, by omega⟩
  refine ev_ref_of (P := ev_PU) (lv := [(0, .ref 621), (1, .int (Int32.ofInt a0)), (2, .int (Int32.ofInt a1)), (3, .int (Int32.ofInt a2))]) (by decide +kernel) (by (try simp only [ev_sum, ev_nv_cat]); first | done | rfl) (by (try simp only [lv_args, ev_nv_cat]); first | done | rfl) ?_ x S' hJ
  unfold jm_311
  refine ev_r_iload_n (pc := 0) (k := 3) (v := Int32.ofInt a2) (by decide +kernel) (by rfl) ?_
  refine ev_r_aload_n (pc := 1) (k := 0) (v := .ref 621) trivial (by decide +kernel) (by rfl) ?_
  refine ev_r_getC (pc := 2) (y := 37) (ci := 13) (f := 12) (fin := 1) (k' := 631) (by decide +kernel) (by decide +kernel) (by exact ev_ob_621) rfl rfl ?_
  refine ev_r_iload_n (pc := 5) (k := 2) (v := Int32.ofInt a1) (by decide +kernel) (by rfl) ?_
  refine ev_r_iald (pc := 6) ha1 (by decide +kernel) (by exact ev_ab_631) ?_
  intro x1 hx1
  refine ev_r_icmp (pc := 7) (q := .ge) (o := 22) (t := 29) (c := x1 ≤ a2) (by decide +kernel) (ev_k_ge ha2 hx1) (by decide +kernel) ?_ ?_
  · intro c2
    refine ev_r_aload_n (pc := 29) (k := 0) (v := .ref 621) trivial (by decide +kernel) (by rfl) ?_
    refine ev_r_getC (pc := 30) (y := 40) (ci := 13) (f := 13) (fin := 1) (k' := 632) (by decide +kernel) (by decide +kernel) (by exact ev_ob_621) rfl rfl ?_
    refine ev_r_iload_n (pc := 33) (k := 2) (v := Int32.ofInt a1) (by decide +kernel) (by rfl) ?_
    refine ev_r_iald (pc := 34) ha1 (by decide +kernel) (by exact ev_ab_632) ?_
    intro x3 hx3
    refine ev_r_iconst (pc := 35) (k := -1) (by decide +kernel) ?_
    refine ev_r_jn (Q := fun K => ∀ (s9 : ev_St) (w4 : List (Nat × Value)), ev_lk w4 0 = some (.ref 621) → ev_lk w4 1 = some (.int (Int32.ofInt a0)) → ev_lk w4 2 = some (.int (Int32.ofInt a1)) → ev_lk w4 3 = some (.int (Int32.ofInt a2)) → ev_w none (ev_Mof 311) d 49 w4 [] s9 (K  s9) ev_eU ev_PU) ?_ ?_
    · intro  s9 w4 e5 e6 e7 e8
      refine ev_r_aload_n (pc := 49) (k := 0) (v := .ref 621) trivial (by decide +kernel) (by exact e5) ?_
      refine ev_r_iload_n (pc := 50) (k := 1) (v := Int32.ofInt a0) (by decide +kernel) (by exact e6) ?_
      refine ev_r_iconst (pc := 51) (k := 2) (by decide +kernel) ?_
      refine ev_r_aload_n (pc := 52) (k := 0) (v := .ref 621) trivial (by decide +kernel) (by exact e5) ?_
      refine ev_r_getI (pc := 53) (y := 673) (ci := 13) (f := 54) (fin := 0) (by decide +kernel) (by decide +kernel) (by exact ev_ob_621) rfl ?_
      intro x10 hx10
      refine ev_r_iconst (pc := 56) (k := 1) (by decide +kernel) ?_
      refine ev_r_iadd (pc := 57) (by decide +kernel) ?_
      intro x11 hx11
      refine ev_r_aload_n (pc := 58) (k := 0) (v := .ref 621) trivial (by decide +kernel) (by exact e5) ?_
      refine ev_r_getI (pc := 59) (y := 673) (ci := 13) (f := 54) (fin := 0) (by decide +kernel) (by decide +kernel) (by exact ev_ob_621) rfl ?_
      intro x12 hx12
      refine ev_r_iconst (pc := 62) (k := 1) (by decide +kernel) ?_
      refine ev_r_iadd (pc := 63) (by decide +kernel) ?_
      intro x13 hx13
      refine ev_r_virt (pc := 64) (y := 682) (mi := 309) (na := 4) (k := 621) (as := [.int (Int32.ofInt a0), .int (Int32.ofInt 2), .int (Int32.ofInt x11), .int (Int32.ofInt x13)]) (rest := []) (encc := ev_oI) (Q := ev_rng) (fun x S1 h => jt_309 d (by omega) Q a0 2 x11 x13 ha0 (by decide) hx11 hx13 s9 x S1 h) (by exact ev_ob_621) (by decide +kernel) (by decide +kernel) (by decide +kernel) (by decide +kernel) rfl (by (try simp only [ev_sum, ev_nv_cat]); first | done | rfl) ?_
      intro x15 s14 hx15
      show ev_w _ _ _ _ _ [.int (Int32.ofInt x15)] _ _ _ _
      refine ev_r_istore (pc := 67) (k := 4) (by decide +kernel) (by decide +kernel) rfl ?_
      refine ev_r_aload_n (pc := 69) (k := 0) (v := .ref 621) trivial (by decide +kernel) (by exact (ev_l1 e5 (by decide) (by decide))) ?_
      refine ev_r_aload_n (pc := 70) (k := 0) (v := .ref 621) trivial (by decide +kernel) (by exact (ev_l1 e5 (by decide) (by decide))) ?_
      refine ev_r_getC (pc := 71) (y := 40) (ci := 13) (f := 13) (fin := 1) (k' := 632) (by decide +kernel) (by decide +kernel) (by exact ev_ob_621) rfl rfl ?_
      refine ev_r_iload_n (pc := 74) (k := 2) (v := Int32.ofInt a1) (by decide +kernel) (by exact (ev_l1 e7 (by decide) (by decide))) ?_
      refine ev_r_iald (pc := 75) ha1 (by decide +kernel) (by exact ev_ab_632) ?_
      intro x16 hx16
      refine ev_r_iconst (pc := 76) (k := -1) (by decide +kernel) ?_
      refine ev_r_jn (Q := fun K => ∀ (x17 : Int) (hx17 : ev_rng x17), ∀ (x18 : Int) (hx18 : ev_rng x18), ∀ (s24 : ev_St) (w19 : List (Nat × Value)), ev_lk w19 0 = some (.ref 621) → ev_lk w19 2 = some (.int (Int32.ofInt a1)) → ev_lk w19 3 = some (.int (Int32.ofInt a2)) → ev_lk w19 4 = some (.int (Int32.ofInt x17)) → ev_w none (ev_Mof 311) d 86 w19 [.int (Int32.ofInt x18), .ref 621] s24 (K x17 x18 s24) ev_eU ev_PU) ?_ ?_
      · intro x17 hx17 x18 hx18 s24 w19 e20 e21 e22 e23
        refine ev_r_iload_n (pc := 86) (k := 2) (v := Int32.ofInt a1) (by decide +kernel) (by exact e21) ?_
        refine ev_r_iload (pc := 87) (k := 4) (v := Int32.ofInt x17) (by decide +kernel) (by exact e23) ?_
        refine ev_r_virt (pc := 89) (y := 679) (mi := 310) (na := 3) (k := 621) (as := [.int (Int32.ofInt x18), .int (Int32.ofInt a1), .int (Int32.ofInt x17)]) (rest := []) (encc := ev_oU) (Q := ev_PU) (fun x S1 h => jt_310 d (by omega) Q x18 a1 x17 hx18 ha1 hx17 s24 x S1 h) (by exact ev_ob_621) (by decide +kernel) (by decide +kernel) (by decide +kernel) (by decide +kernel) rfl (by (try simp only [ev_sum, ev_nv_cat]); first | done | rfl) ?_
        intro _ s25 _
        show ev_w _ _ _ _ _ [] _ _ _ _
        refine ev_r_aload_n (pc := 92) (k := 0) (v := .ref 621) trivial (by decide +kernel) (by exact e20) ?_
        refine ev_r_getC (pc := 93) (y := 40) (ci := 13) (f := 13) (fin := 1) (k' := 632) (by decide +kernel) (by decide +kernel) (by exact ev_ob_621) rfl rfl ?_
        refine ev_r_iload_n (pc := 96) (k := 2) (v := Int32.ofInt a1) (by decide +kernel) (by exact e21) ?_
        refine ev_r_iald (pc := 97) ha1 (by decide +kernel) (by exact ev_ab_632) ?_
        intro x26 hx26
        refine ev_r_iconst (pc := 98) (k := -1) (by decide +kernel) ?_
        refine ev_r_jn (Q := fun K => ∀ (s30 : ev_St) (w27 : List (Nat × Value)), ev_lk w27 0 = some (.ref 621) → ev_lk w27 2 = some (.int (Int32.ofInt a1)) → ev_w none (ev_Mof 311) d 111 w27 [] s30 (K  s30) ev_eU ev_PU) ?_ ?_
        · intro  s30 w27 e28 e29
          refine ev_r_aload_n (pc := 111) (k := 0) (v := .ref 621) trivial (by decide +kernel) (by exact e28) ?_
          refine ev_r_iconst (pc := 112) (k := 1) (by decide +kernel) ?_
          refine ev_r_iload_n (pc := 113) (k := 2) (v := Int32.ofInt a1) (by decide +kernel) (by exact e29) ?_
          refine ev_r_iconst (pc := 114) (k := 0) (by decide +kernel) ?_
          refine ev_r_virt (pc := 115) (y := 679) (mi := 310) (na := 3) (k := 621) (as := [.int (Int32.ofInt 1), .int (Int32.ofInt a1), .int (Int32.ofInt 0)]) (rest := []) (encc := ev_oU) (Q := ev_PU) (fun x S1 h => jt_310 d (by omega) Q 1 a1 0 (by decide) ha1 (by decide) s30 x S1 h) (by exact ev_ob_621) (by decide +kernel) (by decide +kernel) (by decide +kernel) (by decide +kernel) rfl (by (try simp only [ev_sum, ev_nv_cat]); first | done | rfl) ?_
          intro _ s31 _
          show ev_w _ _ _ _ _ [] _ _ _ _
          exact ev_r_return (pc := 118) (x := ()) trivial (by decide +kernel) (by decide +kernel) rfl
        · intro K111 hK111
          refine ev_r_icmp (pc := 99) (q := .eq) (o := 12) (t := 111) (c := x26 = (-1)) (by decide +kernel) (ev_k_eq hx26 (by decide)) (by decide +kernel) ?_ ?_
          · intro c32
            exact hK111  s25 _ (by exact e20) (by exact e21)
          · intro c32
            refine ev_r_aload_n (pc := 102) (k := 0) (v := .ref 621) trivial (by decide +kernel) (by exact e20) ?_
            refine ev_r_iconst (pc := 103) (k := 3) (by decide +kernel) ?_
            refine ev_r_iload_n (pc := 104) (k := 2) (v := Int32.ofInt a1) (by decide +kernel) (by exact e21) ?_
            refine ev_r_iload_n (pc := 105) (k := 3) (v := Int32.ofInt a2) (by decide +kernel) (by exact e22) ?_
            refine ev_r_iconst (pc := 106) (k := 1) (by decide +kernel) ?_
            refine ev_r_iadd (pc := 107) (by decide +kernel) ?_
            intro x33 hx33
            refine ev_r_virt (pc := 108) (y := 679) (mi := 310) (na := 3) (k := 621) (as := [.int (Int32.ofInt 3), .int (Int32.ofInt a1), .int (Int32.ofInt x33)]) (rest := []) (encc := ev_oU) (Q := ev_PU) (fun x S1 h => jt_310 d (by omega) Q 3 a1 x33 (by decide) ha1 hx33 s25 x S1 h) (by exact ev_ob_621) (by decide +kernel) (by decide +kernel) (by decide +kernel) (by decide +kernel) rfl (by (try simp only [ev_sum, ev_nv_cat]); first | done | rfl) ?_
            intro _ s34 _
            show ev_w _ _ _ _ _ [] _ _ _ _
            exact hK111  s34 _ (by exact e20) (by exact e21)
      · intro K86 hK86
        refine ev_r_icmp (pc := 77) (q := .ne) (o := 7) (t := 84) (c := x16 ≠ (-1)) (by decide +kernel) (ev_k_ne hx16 (by decide)) (by decide +kernel) ?_ ?_
        · intro c35
          refine ev_r_bipush (pc := 84) (k := 6) (by decide +kernel) (by decide +kernel) ?_
          exact hK86 x15 hx15 6 (by decide) s14 _ (by exact (ev_l1 e5 (by decide) (by decide))) (by exact (ev_l1 e7 (by decide) (by decide))) (by exact (ev_lk_st1 e8 (by decide) rfl)) (by exact ev_lk_st1_self)
        · intro c35
          refine ev_r_iconst (pc := 80) (k := 5) (by decide +kernel) ?_
          refine ev_r_goto (pc := 81) (o := 5) (t := 86) (by decide +kernel) (by decide +kernel) ?_
          exact hK86 x15 hx15 5 (by decide) s14 _ (by exact (ev_l1 e5 (by decide) (by decide))) (by exact (ev_l1 e7 (by decide) (by decide))) (by exact (ev_lk_st1 e8 (by decide) rfl)) (by exact ev_lk_st1_self)
    · intro K49 hK49
      refine ev_r_icmp (pc := 36) (q := .eq) (o := 13) (t := 49) (c := x3 = (-1)) (by decide +kernel) (ev_k_eq hx3 (by decide)) (by decide +kernel) ?_ ?_
      · intro c36
        exact hK49  S _ (by rfl) (by rfl) (by rfl) (by rfl)
      · intro c36
        refine ev_r_iload_n (pc := 39) (k := 3) (v := Int32.ofInt a2) (by decide +kernel) (by rfl) ?_
        refine ev_r_aload_n (pc := 40) (k := 0) (v := .ref 621) trivial (by decide +kernel) (by rfl) ?_
        refine ev_r_getC (pc := 41) (y := 40) (ci := 13) (f := 13) (fin := 1) (k' := 632) (by decide +kernel) (by decide +kernel) (by exact ev_ob_621) rfl rfl ?_
        refine ev_r_iload_n (pc := 44) (k := 2) (v := Int32.ofInt a1) (by decide +kernel) (by rfl) ?_
        refine ev_r_iald (pc := 45) ha1 (by decide +kernel) (by exact ev_ab_632) ?_
        intro x37 hx37
        refine ev_r_icmp (pc := 46) (q := .ge) (o := 72) (t := 118) (c := x37 ≤ a2) (by decide +kernel) (ev_k_ge ha2 hx37) (by decide +kernel) ?_ ?_
        · intro c38
          exact ev_r_return (pc := 118) (x := ()) trivial (by decide +kernel) (by decide +kernel) rfl
        · intro c38
          exact hK49  S _ (by rfl) (by rfl) (by rfl) (by rfl)
  · intro c2
    refine ev_r_aload_n (pc := 10) (k := 0) (v := .ref 621) trivial (by decide +kernel) (by rfl) ?_
    refine ev_r_iconst (pc := 11) (k := 3) (by decide +kernel) ?_
    refine ev_r_iload_n (pc := 12) (k := 2) (v := Int32.ofInt a1) (by decide +kernel) (by rfl) ?_
    refine ev_r_iload_n (pc := 13) (k := 3) (v := Int32.ofInt a2) (by decide +kernel) (by rfl) ?_
    refine ev_r_iconst (pc := 14) (k := 1) (by decide +kernel) ?_
    refine ev_r_iadd (pc := 15) (by decide +kernel) ?_
    intro x39 hx39
    refine ev_r_virt (pc := 16) (y := 679) (mi := 310) (na := 3) (k := 621) (as := [.int (Int32.ofInt 3), .int (Int32.ofInt a1), .int (Int32.ofInt x39)]) (rest := []) (encc := ev_oU) (Q := ev_PU) (fun x S1 h => jt_310 d (by omega) Q 3 a1 x39 (by decide) ha1 hx39 S x S1 h) (by exact ev_ob_621) (by decide +kernel) (by decide +kernel) (by decide +kernel) (by decide +kernel) rfl (by (try simp only [ev_sum, ev_nv_cat]); first | done | rfl) ?_
    intro _ s40 _
    show ev_w _ _ _ _ _ [] _ _ _ _
    refine ev_r_aload_n (pc := 19) (k := 0) (v := .ref 621) trivial (by decide +kernel) (by rfl) ?_
    refine ev_r_iconst (pc := 20) (k := 1) (by decide +kernel) ?_
    refine ev_r_iload_n (pc := 21) (k := 2) (v := Int32.ofInt a1) (by decide +kernel) (by rfl) ?_
    refine ev_r_iconst (pc := 22) (k := 0) (by decide +kernel) ?_
    refine ev_r_virt (pc := 23) (y := 679) (mi := 310) (na := 3) (k := 621) (as := [.int (Int32.ofInt 1), .int (Int32.ofInt a1), .int (Int32.ofInt 0)]) (rest := []) (encc := ev_oU) (Q := ev_PU) (fun x S1 h => jt_310 d (by omega) Q 1 a1 0 (by decide) ha1 (by decide) s40 x S1 h) (by exact ev_ob_621) (by decide +kernel) (by decide +kernel) (by decide +kernel) (by decide +kernel) rfl (by (try simp only [ev_sum, ev_nv_cat]); first | done | rfl) ?_
    intro _ s41 _
    show ev_w _ _ _ _ _ [] _ _ _ _
    refine ev_r_goto (pc := 26) (o := 92) (t := 118) (by decide +kernel) (by decide +kernel) ?_
    exact ev_r_return (pc := 118) (x := ()) trivial (by decide +kernel) (by decide +kernel) rfl
/-- MendBenchModel.patches(III)V -/
def jm_312 (Q : Nat) (a0 : Int) (a1 : Int) (a2 : Int) (S : ev_St) : Option ((Unit) × ev_St) := ev_if ((0 : Int) ≤ a1 ∧ a1 < (ev_aln 630 : Int)) (ev_b (S.1 630 (Int.toNat a1)) fun x1 => if x1 ≠ 1 then (ev_ck (210 * a0) fun x3 => ev_ck (x3 + a2) fun x4 => ev_b (S.1 621 54) fun x5 => ev_if ((0 : Int) ≤ x4 ∧ x4 < (ev_aln 664 : Int)) (ev_b (ev_pI S 664 (Int.toNat x4) x5) fun s6 => some ((), s6))) else (ev_ck (210 * a0) fun x7 => ev_ck (x7 + a2) fun x8 => ev_b (S.1 621 54) fun x9 => ev_if ((0 : Int) ≤ x8 ∧ x8 < (ev_aln 663 : Int)) (ev_b (ev_pI S 663 (Int.toNat x8) x9) fun s10 => some ((), s10))))
theorem jt_312 (d : Nat) (hd : 1 ≤ d) (Q : Nat) (a0 : Int) (a1 : Int) (a2 : Int) (ha0 : ev_rng a0) (ha1 : ev_rng a1) (ha2 : ev_rng a2) (S : ev_St) (x : Unit) (S' : ev_St) (hJ : jm_312 Q a0 a1 a2 S = some (x, S')) : ev_Ref d 312 [.ref 621, .int (Int32.ofInt a0), .int (Int32.ofInt a1), .int (Int32.ofInt a2)] S (ev_eU x) S' (ev_PU x) := by
  obtain ⟨d, rfl⟩ : ∃ e, d = e + 1 := ⟨d - 1, by omega⟩
  refine ev_ref_of (P := ev_PU) (lv := [(0, .ref 621), (1, .int (Int32.ofInt a0)), (2, .int (Int32.ofInt a1)), (3, .int (Int32.ofInt a2))]) (by decide +kernel) (by (try simp only [ev_sum, ev_nv_cat]); first | done | rfl) (by (try simp only [lv_args, ev_nv_cat]); first | done | rfl) ?_ x S' hJ
  unfold jm_312
  refine ev_r_aload_n (pc := 0) (k := 0) (v := .ref 621) trivial (by decide +kernel) (by rfl) ?_
  refine ev_r_getC (pc := 1) (y := 34) (ci := 13) (f := 11) (fin := 1) (k' := 630) (by decide +kernel) (by decide +kernel) (by exact ev_ob_621) rfl rfl ?_
  refine ev_r_iload_n (pc := 4) (k := 2) (v := Int32.ofInt a1) (by decide +kernel) (by rfl) ?_
  refine ev_r_iald (pc := 5) ha1 (by decide +kernel) (by exact ev_ab_630) ?_
  intro x1 hx1
  refine ev_r_iconst (pc := 6) (k := 1) (by decide +kernel) ?_
  refine ev_r_icmp (pc := 7) (q := .ne) (o := 22) (t := 29) (c := x1 ≠ 1) (by decide +kernel) (ev_k_ne hx1 (by decide)) (by decide +kernel) ?_ ?_
  · intro c2
    refine ev_r_aload_n (pc := 29) (k := 0) (v := .ref 621) trivial (by decide +kernel) (by rfl) ?_
    refine ev_r_getC (pc := 30) (y := 138) (ci := 13) (f := 57) (fin := 1) (k' := 664) (by decide +kernel) (by decide +kernel) (by exact ev_ob_621) rfl rfl ?_
    refine ev_r_sipush (pc := 33) (k := 210) (by decide +kernel) (by decide +kernel) ?_
    refine ev_r_iload_n (pc := 36) (k := 1) (v := Int32.ofInt a0) (by decide +kernel) (by rfl) ?_
    refine ev_r_imul (pc := 37) (by decide +kernel) ?_
    intro x3 hx3
    refine ev_r_iload_n (pc := 38) (k := 3) (v := Int32.ofInt a2) (by decide +kernel) (by rfl) ?_
    refine ev_r_iadd (pc := 39) (by decide +kernel) ?_
    intro x4 hx4
    refine ev_r_aload_n (pc := 40) (k := 0) (v := .ref 621) trivial (by decide +kernel) (by rfl) ?_
    refine ev_r_getI (pc := 41) (y := 673) (ci := 13) (f := 54) (fin := 0) (by decide +kernel) (by decide +kernel) (by exact ev_ob_621) rfl ?_
    intro x5 hx5
    refine ev_r_iast (pc := 44) hx5 hx4 (by decide +kernel) (by exact ev_ab_664) ?_
    intro s6
    exact ev_r_return (pc := 45) (x := ()) trivial (by decide +kernel) (by decide +kernel) rfl
  · intro c2
    refine ev_r_aload_n (pc := 10) (k := 0) (v := .ref 621) trivial (by decide +kernel) (by rfl) ?_
    refine ev_r_getC (pc := 11) (y := 135) (ci := 13) (f := 56) (fin := 1) (k' := 663) (by decide +kernel) (by decide +kernel) (by exact ev_ob_621) rfl rfl ?_
    refine ev_r_sipush (pc := 14) (k := 210) (by decide +kernel) (by decide +kernel) ?_
    refine ev_r_iload_n (pc := 17) (k := 1) (v := Int32.ofInt a0) (by decide +kernel) (by rfl) ?_
    refine ev_r_imul (pc := 18) (by decide +kernel) ?_
    intro x7 hx7
    refine ev_r_iload_n (pc := 19) (k := 3) (v := Int32.ofInt a2) (by decide +kernel) (by rfl) ?_
    refine ev_r_iadd (pc := 20) (by decide +kernel) ?_
    intro x8 hx8
    refine ev_r_aload_n (pc := 21) (k := 0) (v := .ref 621) trivial (by decide +kernel) (by rfl) ?_
    refine ev_r_getI (pc := 22) (y := 673) (ci := 13) (f := 54) (fin := 0) (by decide +kernel) (by decide +kernel) (by exact ev_ob_621) rfl ?_
    intro x9 hx9
    refine ev_r_iast (pc := 25) hx9 hx8 (by decide +kernel) (by exact ev_ab_663) ?_
    intro s10
    refine ev_r_goto (pc := 26) (o := 19) (t := 45) (by decide +kernel) (by decide +kernel) ?_
    exact ev_r_return (pc := 45) (x := ()) trivial (by decide +kernel) (by decide +kernel) rfl
def jb_313_23 (Q : Nat) (a0 : Int)  (K23 : Int → ev_St → Option ((Unit) × ev_St)) (x4 : Int) (s9 : ev_St) : Option ((Unit) × ev_St) := ev_b (s9.1 621 59) fun x10 => if x10 ≤ 0 then (ev_bd (jm_309 Q a0 5 0 0 s9) fun x13 s12 => ev_if ((0 : Int) ≤ a0 ∧ a0 < (ev_aln 665 : Int)) (ev_b (ev_pI s12 665 (Int.toNat a0) x13) fun s14 => some ((), s14))) else (ev_b (s9.1 621 59) fun x15 => ev_ck (x15 - 1) fun x16 => ev_b (ev_pI s9 621 59 x16) fun s17 => ev_b (s17.1 621 59) fun x18 => ev_if ((0 : Int) ≤ x18 ∧ x18 < (ev_aln 666 : Int)) (ev_b (s17.1 666 (Int.toNat x18)) fun x19 => ev_b (s17.1 621 59) fun x20 => ev_if ((0 : Int) ≤ x20 ∧ x20 < (ev_aln 667 : Int)) (ev_b (s17.1 667 (Int.toNat x20)) fun x21 => ev_b (s17.1 621 59) fun x22 => ev_if ((0 : Int) ≤ x22 ∧ x22 < (ev_aln 668 : Int)) (ev_b (s17.1 668 (Int.toNat x22)) fun x23 => ev_jn (fun (x24 : Int) (x25 : Int) (s32 : ev_St) => ev_jn (fun  (s37 : ev_St) => K23 x4 s37) fun K558 => if x24 ≠ 11 then (K558  s32) else (ev_if ((0 : Int) ≤ x25 ∧ x25 < (ev_aln 627 : Int)) (ev_b (s32.1 627 (Int.toNat x25)) fun x39 => ev_jn (fun  (s45 : ev_St) => ev_bd (jm_310 Q 0 x25 0 s45) fun _ s46 => K558  s46) fun K550 => if x39 = (-1) then (K550  s32) else (ev_if ((0 : Int) ≤ x25 ∧ x25 < (ev_aln 627 : Int)) (ev_b (s32.1 627 (Int.toNat x25)) fun x48 => ev_ck (x4 + x48) fun x49 => ev_bd (jm_310 Q 11 x49 0 s32) fun _ s50 => K550  s50))))) fun K517 => if x19 ≠ 0 then (ev_jn (fun  (s59 : ev_St) => ev_jn (fun  (s67 : ev_St) => if x19 ≠ 1 then (if x19 ≠ 2 then (if x19 ≠ 3 then (if x19 ≠ 4 then (if x19 ≠ 5 then (if x19 ≠ 6 then (if x19 ≠ 7 then (if x19 ≠ 8 then (if x19 ≠ 9 then (if x19 ≠ 10 then (K517 x19 x21 s67) else (ev_if ((0 : Int) ≤ x21 ∧ x21 < (ev_aln 626 : Int)) (ev_b (s67.1 626 (Int.toNat x21)) fun x78 => if x78 = (-1) then (K517 x19 x21 s67) else (ev_if ((0 : Int) ≤ x21 ∧ x21 < (ev_aln 626 : Int)) (ev_b (s67.1 626 (Int.toNat x21)) fun x80 => ev_ck (x4 + x80) fun x81 => ev_bd (jm_310 Q 11 x81 0 s67) fun _ s82 => K517 x19 x21 s82))))) else (ev_ck (210 * a0) fun x83 => ev_ck (x83 + x23) fun x84 => ev_b (s67.1 621 54) fun x85 => ev_if ((0 : Int) ≤ x84 ∧ x84 < (ev_aln 663 : Int)) (ev_b (ev_pI s67 663 (Int.toNat x84) x85) fun s86 => K517 x19 x21 s86))) else (ev_bd (jm_309 Q a0 4 x23 0 s67) fun x88 s87 => K517 x19 x21 s87)) else (ev_bd (jm_309 Q a0 3 0 0 s67) fun x90 s89 => ev_ck (210 * a0) fun x91 => ev_ck (x91 + x23) fun x92 => ev_b (s89.1 621 54) fun x93 => ev_if ((0 : Int) ≤ x92 ∧ x92 < (ev_aln 664 : Int)) (ev_b (ev_pI s89 664 (Int.toNat x92) x93) fun s94 => ev_bd (jm_310 Q 9 x21 x90 s94) fun _ s95 => ev_if ((0 : Int) ≤ x21 ∧ x21 < (ev_aln 627 : Int)) (ev_b (s95.1 627 (Int.toNat x21)) fun x96 => ev_ck (x4 + x96) fun x97 => ev_bd (jm_310 Q 4 x97 0 s95) fun _ s98 => K517 x19 x21 s98)))) else (ev_bd (jm_312 Q a0 x21 x23 s67) fun _ s99 => K517 x19 x21 s99)) else (ev_bd (jm_309 Q a0 3 x23 0 s67) fun x101 s100 => ev_bd (jm_312 Q a0 x21 x23 s100) fun _ s102 => K517 x19 x21 s102)) else (ev_if ((0 : Int) ≤ x21 ∧ x21 < (ev_aln 627 : Int)) (ev_b (s67.1 627 (Int.toNat x21)) fun x103 => ev_jn (fun (x104 : Int) (s111 : ev_St) => ev_jn (fun  (s118 : ev_St) => ev_bd (jm_310 Q 10 x21 0 s118) fun _ s119 => K517 x19 x21 s119) fun K319 => if x104 = (-1) then (K319  s111) else (ev_bd (jm_310 Q 7 x21 x104 s111) fun _ s121 => K319  s121)) fun K301 => if x103 ≠ (-1) then (ev_b (s67.1 621 54) fun x123 => ev_ck (x123 + 1) fun x124 => ev_bd (jm_309 Q a0 2 x124 0 s67) fun x126 s125 => K301 x126 s125) else (K301 ((-1)) s67)))) else (ev_bd (jm_311 Q a0 x21 x23 s67) fun _ s127 => K517 x19 x21 s127)) else (ev_if ((0 : Int) ≤ x21 ∧ x21 < (ev_aln 626 : Int)) (ev_b (s67.1 626 (Int.toNat x21)) fun x128 => ev_ck (x4 + x128) fun x129 => ev_bd (jm_310 Q 4 x129 0 s67) fun _ s130 => K517 x19 x21 s130))) else (ev_bd (jm_310 Q 2 x21 0 s67) fun _ s131 => K517 x19 x21 s131)) fun K212 => if x19 ≠ 1 then (K212  s59) else (ev_if ((0 : Int) ≤ x21 ∧ x21 < (ev_aln 625 : Int)) (ev_b (s59.1 625 (Int.toNat x21)) fun x133 => if x133 ≠ 8 then (K212  s59) else (ev_if ((0 : Int) ≤ x21 ∧ x21 < (ev_aln 628 : Int)) (ev_b (s59.1 628 (Int.toNat x21)) fun x135 => ev_ck (2 * x135) fun x136 => ev_bd (jm_309 Q a0 4 x136 0 s59) fun x138 s137 => ev_if ((0 : Int) ≤ x21 ∧ x21 < (ev_aln 628 : Int)) (ev_b (s137.1 628 (Int.toNat x21)) fun x139 => ev_ck (2 * x139) fun x140 => ev_ck (x140 + 1) fun x141 => ev_bd (jm_310 Q 8 x21 x141 s137) fun _ s142 => ev_bd (jm_310 Q 2 x21 0 s142) fun _ s143 => K517 x19 x21 s143)))))) fun K147 => if x19 ≠ 1 then (K147  s17) else (ev_if ((0 : Int) ≤ x21 ∧ x21 < (ev_aln 625 : Int)) (ev_b (s17.1 625 (Int.toNat x21)) fun x145 => if 7 ≤ x145 then (K147  s17) else (ev_if ((0 : Int) ≤ x21 ∧ x21 < (ev_aln 625 : Int)) (ev_b (s17.1 625 (Int.toNat x21)) fun x147 => ev_jn (fun (x149 : Int) (x148 : Int) (s156 : ev_St) => ev_bd (jm_309 Q x148 x149 x21 0 s156) fun x158 s157 => K517 x19 x21 s157) fun K136 => if x147 ≠ 0 then (K136 1 a0 s17) else (K136 0 a0 s17)))))) else (ev_if ((0 : Int) ≤ x21 ∧ x21 < (ev_aln 630 : Int)) (ev_b (s17.1 630 (Int.toNat x21)) fun x160 => ev_jn (fun (x161 : Int) (s168 : ev_St) => ev_bd (jm_310 Q x161 x21 0 s168) fun _ s169 => K517 x19 x21 s169) fun K93 => if x160 ≠ (-1) then (K93 3 s17) else (K93 1 s17)))))))
def jl_313_23 (Q : Nat) (a0 : Int)  : Nat → Int → ev_St → Option ((Unit) × ev_St)
  | 0 => fun _ _ => none
  | q + 1 => jb_313_23 Q a0  (jl_313_23 Q a0  q)
theorem jbt_313_23 (d : Nat) (hd : 3 ≤ d + 1) (Q : Nat) (a0 : Int) (ha0 : ev_rng a0)   (K23 : Int → ev_St → Option ((Unit) × ev_St)) (hK23 : ∀ (x4 : Int) (hx4 : ev_rng x4), ∀ (s9 : ev_St) (w5 : List (Nat × Value)), ev_lk w5 0 = some (.ref 621) → ev_lk w5 1 = some (.int (Int32.ofInt a0)) → ev_lk w5 2 = some (.int (Int32.ofInt x4)) → ev_w none (ev_Mof 313) d 23 w5 [] s9 (K23 x4 s9) ev_eU ev_PU) : ∀ (x4 : Int) (hx4 : ev_rng x4), ∀ (s9 : ev_St) (w5 : List (Nat × Value)), ev_lk w5 0 = some (.ref 621) → ev_lk w5 1 = some (.int (Int32.ofInt a0)) → ev_lk w5 2 = some (.int (Int32.ofInt x4)) → ev_w none (ev_Mof 313) d 23 w5 [] s9 (jb_313_23 Q a0  K23 x4 s9) ev_eU ev_PU := by
  intro x4 hx4 s9 w5 e6 e7 e8
  unfold jb_313_23
  refine ev_r_aload_n (pc := 23) (k := 0) (v := .ref 621) trivial (by decide +kernel) (by exact e6) ?_
  refine ev_r_getI (pc := 24) (y := 676) (ci := 13) (f := 59) (fin := 0) (by decide +kernel) (by decide +kernel) (by exact ev_ob_621) rfl ?_
  intro x10 hx10
  refine ev_r_if (pc := 27) (q := .le) (o := 534) (t := 561) (c := x10 ≤ 0) (by decide +kernel) (ev_k_le hx10 ev_rng0) (by decide +kernel) ?_ ?_
  · intro c11
    refine ev_r_aload_n (pc := 561) (k := 0) (v := .ref 621) trivial (by decide +kernel) (by exact e6) ?_
    refine ev_r_getC (pc := 562) (y := 141) (ci := 13) (f := 58) (fin := 1) (k' := 665) (by decide +kernel) (by decide +kernel) (by exact ev_ob_621) rfl rfl ?_
    refine ev_r_iload_n (pc := 565) (k := 1) (v := Int32.ofInt a0) (by decide +kernel) (by exact e7) ?_
    refine ev_r_aload_n (pc := 566) (k := 0) (v := .ref 621) trivial (by decide +kernel) (by exact e6) ?_
    refine ev_r_iload_n (pc := 567) (k := 1) (v := Int32.ofInt a0) (by decide +kernel) (by exact e7) ?_
    refine ev_r_iconst (pc := 568) (k := 5) (by decide +kernel) ?_
    refine ev_r_iconst (pc := 569) (k := 0) (by decide +kernel) ?_
    refine ev_r_iconst (pc := 570) (k := 0) (by decide +kernel) ?_
    refine ev_r_virt (pc := 571) (y := 682) (mi := 309) (na := 4) (k := 621) (as := [.int (Int32.ofInt a0), .int (Int32.ofInt 5), .int (Int32.ofInt 0), .int (Int32.ofInt 0)]) (rest := [.int (Int32.ofInt a0), .ref 665]) (encc := ev_oI) (Q := ev_rng) (fun x S1 h => jt_309 d (by omega) Q a0 5 0 0 ha0 (by decide) (by decide) (by decide) s9 x S1 h) (by exact ev_ob_621) (by decide +kernel) (by decide +kernel) (by decide +kernel) (by decide +kernel) rfl (by (try simp only [ev_sum, ev_nv_cat]); first | done | rfl) ?_
    intro x13 s12 hx13
    show ev_w _ _ _ _ _ [.int (Int32.ofInt x13), .int (Int32.ofInt a0), .ref 665] _ _ _ _
    refine ev_r_iast (pc := 574) hx13 ha0 (by decide +kernel) (by exact ev_ab_665) ?_
    intro s14
    exact ev_r_return (pc := 575) (x := ()) trivial (by decide +kernel) (by decide +kernel) rfl
  · intro c11
    refine ev_r_aload_n (pc := 30) (k := 0) (v := .ref 621) trivial (by decide +kernel) (by exact e6) ?_
    refine ev_r_dup (pc := 31) rfl (by decide +kernel) ?_
    refine ev_r_getI (pc := 32) (y := 676) (ci := 13) (f := 59) (fin := 0) (by decide +kernel) (by decide +kernel) (by exact ev_ob_621) rfl ?_
    intro x15 hx15
    refine ev_r_iconst (pc := 35) (k := 1) (by decide +kernel) ?_
    refine ev_r_isub (pc := 36) (by decide +kernel) ?_
    intro x16 hx16
    refine ev_r_putI (pc := 37) (y := 676) (ci := 13) (f := 59) hx16 (by decide +kernel) (by decide +kernel) (by exact ev_ob_621) rfl rfl ?_
    intro s17
    refine ev_r_aload_n (pc := 40) (k := 0) (v := .ref 621) trivial (by decide +kernel) (by exact e6) ?_
    refine ev_r_getC (pc := 41) (y := 144) (ci := 13) (f := 60) (fin := 1) (k' := 666) (by decide +kernel) (by decide +kernel) (by exact ev_ob_621) rfl rfl ?_
    refine ev_r_aload_n (pc := 44) (k := 0) (v := .ref 621) trivial (by decide +kernel) (by exact e6) ?_
    refine ev_r_getI (pc := 45) (y := 676) (ci := 13) (f := 59) (fin := 0) (by decide +kernel) (by decide +kernel) (by exact ev_ob_621) rfl ?_
    intro x18 hx18
    refine ev_r_iald (pc := 48) hx18 (by decide +kernel) (by exact ev_ab_666) ?_
    intro x19 hx19
    refine ev_r_istore_n (pc := 49) (k := 3) (by decide +kernel) (by decide +kernel) rfl ?_
    refine ev_r_aload_n (pc := 50) (k := 0) (v := .ref 621) trivial (by decide +kernel) (by exact (ev_l1 e6 (by decide) (by decide))) ?_
    refine ev_r_getC (pc := 51) (y := 147) (ci := 13) (f := 61) (fin := 1) (k' := 667) (by decide +kernel) (by decide +kernel) (by exact ev_ob_621) rfl rfl ?_
    refine ev_r_aload_n (pc := 54) (k := 0) (v := .ref 621) trivial (by decide +kernel) (by exact (ev_l1 e6 (by decide) (by decide))) ?_
    refine ev_r_getI (pc := 55) (y := 676) (ci := 13) (f := 59) (fin := 0) (by decide +kernel) (by decide +kernel) (by exact ev_ob_621) rfl ?_
    intro x20 hx20
    refine ev_r_iald (pc := 58) hx20 (by decide +kernel) (by exact ev_ab_667) ?_
    intro x21 hx21
    refine ev_r_istore (pc := 59) (k := 4) (by decide +kernel) (by decide +kernel) rfl ?_
    refine ev_r_aload_n (pc := 61) (k := 0) (v := .ref 621) trivial (by decide +kernel) (by exact (ev_l1 (ev_l1 e6 (by decide) (by decide)) (by decide) (by decide))) ?_
    refine ev_r_getC (pc := 62) (y := 150) (ci := 13) (f := 62) (fin := 1) (k' := 668) (by decide +kernel) (by decide +kernel) (by exact ev_ob_621) rfl rfl ?_
    refine ev_r_aload_n (pc := 65) (k := 0) (v := .ref 621) trivial (by decide +kernel) (by exact (ev_l1 (ev_l1 e6 (by decide) (by decide)) (by decide) (by decide))) ?_
    refine ev_r_getI (pc := 66) (y := 676) (ci := 13) (f := 59) (fin := 0) (by decide +kernel) (by decide +kernel) (by exact ev_ob_621) rfl ?_
    intro x22 hx22
    refine ev_r_iald (pc := 69) hx22 (by decide +kernel) (by exact ev_ab_668) ?_
    intro x23 hx23
    refine ev_r_istore (pc := 70) (k := 5) (by decide +kernel) (by decide +kernel) rfl ?_
    refine ev_r_iload_n (pc := 72) (k := 3) (v := Int32.ofInt x19) (by decide +kernel) (by exact (ev_l1 (ev_lk_st1 ev_lk_st1_self (by decide) rfl) (by decide) (by decide))) ?_
    refine ev_r_jn (Q := fun K => ∀ (x24 : Int) (hx24 : ev_rng x24), ∀ (x25 : Int) (hx25 : ev_rng x25), ∀ (s32 : ev_St) (w26 : List (Nat × Value)), ev_lk w26 0 = some (.ref 621) → ev_lk w26 1 = some (.int (Int32.ofInt a0)) → ev_lk w26 2 = some (.int (Int32.ofInt x4)) → ev_lk w26 3 = some (.int (Int32.ofInt x24)) → ev_lk w26 4 = some (.int (Int32.ofInt x25)) → ev_w none (ev_Mof 313) d 517 w26 [] s32 (K x24 x25 s32) ev_eU ev_PU) ?_ ?_
    · intro x24 hx24 x25 hx25 s32 w26 e27 e28 e29 e30 e31
      refine ev_r_iload_n (pc := 517) (k := 3) (v := Int32.ofInt x24) (by decide +kernel) (by exact e30) ?_
      refine ev_r_bipush (pc := 518) (k := 11) (by decide +kernel) (by decide +kernel) ?_
      refine ev_r_jn (Q := fun K => ∀ (s37 : ev_St) (w33 : List (Nat × Value)), ev_lk w33 0 = some (.ref 621) → ev_lk w33 1 = some (.int (Int32.ofInt a0)) → ev_lk w33 2 = some (.int (Int32.ofInt x4)) → ev_w none (ev_Mof 313) d 558 w33 [] s37 (K  s37) ev_eU ev_PU) ?_ ?_
      · intro  s37 w33 e34 e35 e36
        refine ev_r_goto (pc := 558) (o := (-535)) (t := 23) (by decide +kernel) (by decide +kernel) ?_
        exact hK23 x4 hx4 s37 _ (by exact e34) (by exact e35) (by exact e36)
      · intro K558 hK558
        refine ev_r_icmp (pc := 520) (q := .ne) (o := 38) (t := 558) (c := x24 ≠ 11) (by decide +kernel) (ev_k_ne hx24 (by decide)) (by decide +kernel) ?_ ?_
        · intro c38
          exact hK558  s32 _ (by exact e27) (by exact e28) (by exact e29)
        · intro c38
          refine ev_r_aload_n (pc := 523) (k := 0) (v := .ref 621) trivial (by decide +kernel) (by exact e27) ?_
          refine ev_r_getC (pc := 524) (y := 25) (ci := 13) (f := 8) (fin := 1) (k' := 627) (by decide +kernel) (by decide +kernel) (by exact ev_ob_621) rfl rfl ?_
          refine ev_r_iload (pc := 527) (k := 4) (v := Int32.ofInt x25) (by decide +kernel) (by exact e31) ?_
          refine ev_r_iald (pc := 529) hx25 (by decide +kernel) (by exact ev_ab_627) ?_
          intro x39 hx39
          refine ev_r_iconst (pc := 530) (k := -1) (by decide +kernel) ?_
          refine ev_r_jn (Q := fun K => ∀ (s45 : ev_St) (w40 : List (Nat × Value)), ev_lk w40 0 = some (.ref 621) → ev_lk w40 1 = some (.int (Int32.ofInt a0)) → ev_lk w40 2 = some (.int (Int32.ofInt x4)) → ev_lk w40 4 = some (.int (Int32.ofInt x25)) → ev_w none (ev_Mof 313) d 550 w40 [] s45 (K  s45) ev_eU ev_PU) ?_ ?_
          · intro  s45 w40 e41 e42 e43 e44
            refine ev_r_aload_n (pc := 550) (k := 0) (v := .ref 621) trivial (by decide +kernel) (by exact e41) ?_
            refine ev_r_iconst (pc := 551) (k := 0) (by decide +kernel) ?_
            refine ev_r_iload (pc := 552) (k := 4) (v := Int32.ofInt x25) (by decide +kernel) (by exact e44) ?_
            refine ev_r_iconst (pc := 554) (k := 0) (by decide +kernel) ?_
            refine ev_r_virt (pc := 555) (y := 679) (mi := 310) (na := 3) (k := 621) (as := [.int (Int32.ofInt 0), .int (Int32.ofInt x25), .int (Int32.ofInt 0)]) (rest := []) (encc := ev_oU) (Q := ev_PU) (fun x S1 h => jt_310 d (by omega) Q 0 x25 0 (by decide) hx25 (by decide) s45 x S1 h) (by exact ev_ob_621) (by decide +kernel) (by decide +kernel) (by decide +kernel) (by decide +kernel) rfl (by (try simp only [ev_sum, ev_nv_cat]); first | done | rfl) ?_
            intro _ s46 _
            show ev_w _ _ _ _ _ [] _ _ _ _
            exact hK558  s46 _ (by exact e41) (by exact e42) (by exact e43)
          · intro K550 hK550
            refine ev_r_icmp (pc := 531) (q := .eq) (o := 19) (t := 550) (c := x39 = (-1)) (by decide +kernel) (ev_k_eq hx39 (by decide)) (by decide +kernel) ?_ ?_
            · intro c47
              exact hK550  s32 _ (by exact e27) (by exact e28) (by exact e29) (by exact e31)
            · intro c47
              refine ev_r_aload_n (pc := 534) (k := 0) (v := .ref 621) trivial (by decide +kernel) (by exact e27) ?_
              refine ev_r_bipush (pc := 535) (k := 11) (by decide +kernel) (by decide +kernel) ?_
              refine ev_r_iload_n (pc := 537) (k := 2) (v := Int32.ofInt x4) (by decide +kernel) (by exact e29) ?_
              refine ev_r_aload_n (pc := 538) (k := 0) (v := .ref 621) trivial (by decide +kernel) (by exact e27) ?_
              refine ev_r_getC (pc := 539) (y := 25) (ci := 13) (f := 8) (fin := 1) (k' := 627) (by decide +kernel) (by decide +kernel) (by exact ev_ob_621) rfl rfl ?_
              refine ev_r_iload (pc := 542) (k := 4) (v := Int32.ofInt x25) (by decide +kernel) (by exact e31) ?_
              refine ev_r_iald (pc := 544) hx25 (by decide +kernel) (by exact ev_ab_627) ?_
              intro x48 hx48
              refine ev_r_iadd (pc := 545) (by decide +kernel) ?_
              intro x49 hx49
              refine ev_r_iconst (pc := 546) (k := 0) (by decide +kernel) ?_
              refine ev_r_virt (pc := 547) (y := 679) (mi := 310) (na := 3) (k := 621) (as := [.int (Int32.ofInt 11), .int (Int32.ofInt x49), .int (Int32.ofInt 0)]) (rest := []) (encc := ev_oU) (Q := ev_PU) (fun x S1 h => jt_310 d (by omega) Q 11 x49 0 (by decide) hx49 (by decide) s32 x S1 h) (by exact ev_ob_621) (by decide +kernel) (by decide +kernel) (by decide +kernel) (by decide +kernel) rfl (by (try simp only [ev_sum, ev_nv_cat]); first | done | rfl) ?_
              intro _ s50 _
              show ev_w _ _ _ _ _ [] _ _ _ _
              exact hK550  s50 _ (by exact e27) (by exact e28) (by exact e29) (by exact e31)
    · intro K517 hK517
      refine ev_r_if (pc := 73) (q := .ne) (o := 29) (t := 102) (c := x19 ≠ 0) (by decide +kernel) (ev_k_ne hx19 ev_rng0) (by decide +kernel) ?_ ?_
      · intro c51
        refine ev_r_iload_n (pc := 102) (k := 3) (v := Int32.ofInt x19) (by decide +kernel) (by exact (ev_l1 (ev_lk_st1 ev_lk_st1_self (by decide) rfl) (by decide) (by decide))) ?_
        refine ev_r_iconst (pc := 103) (k := 1) (by decide +kernel) ?_
        refine ev_r_jn (Q := fun K => ∀ (s59 : ev_St) (w52 : List (Nat × Value)), ev_lk w52 0 = some (.ref 621) → ev_lk w52 1 = some (.int (Int32.ofInt a0)) → ev_lk w52 2 = some (.int (Int32.ofInt x4)) → ev_lk w52 3 = some (.int (Int32.ofInt x19)) → ev_lk w52 4 = some (.int (Int32.ofInt x21)) → ev_lk w52 5 = some (.int (Int32.ofInt x23)) → ev_w none (ev_Mof 313) d 147 w52 [] s59 (K  s59) ev_eU ev_PU) ?_ ?_
        · intro  s59 w52 e53 e54 e55 e56 e57 e58
          refine ev_r_iload_n (pc := 147) (k := 3) (v := Int32.ofInt x19) (by decide +kernel) (by exact e56) ?_
          refine ev_r_iconst (pc := 148) (k := 1) (by decide +kernel) ?_
          refine ev_r_jn (Q := fun K => ∀ (s67 : ev_St) (w60 : List (Nat × Value)), ev_lk w60 0 = some (.ref 621) → ev_lk w60 1 = some (.int (Int32.ofInt a0)) → ev_lk w60 2 = some (.int (Int32.ofInt x4)) → ev_lk w60 3 = some (.int (Int32.ofInt x19)) → ev_lk w60 4 = some (.int (Int32.ofInt x21)) → ev_lk w60 5 = some (.int (Int32.ofInt x23)) → ev_w none (ev_Mof 313) d 212 w60 [] s67 (K  s67) ev_eU ev_PU) ?_ ?_
          · intro  s67 w60 e61 e62 e63 e64 e65 e66
            refine ev_r_iload_n (pc := 212) (k := 3) (v := Int32.ofInt x19) (by decide +kernel) (by exact e64) ?_
            refine ev_r_iconst (pc := 213) (k := 1) (by decide +kernel) ?_
            refine ev_r_icmp (pc := 214) (q := .ne) (o := 14) (t := 228) (c := x19 ≠ 1) (by decide +kernel) (ev_k_ne hx19 (by decide)) (by decide +kernel) ?_ ?_
            · intro c68
              refine ev_r_iload_n (pc := 228) (k := 3) (v := Int32.ofInt x19) (by decide +kernel) (by exact e64) ?_
              refine ev_r_iconst (pc := 229) (k := 2) (by decide +kernel) ?_
              refine ev_r_icmp (pc := 230) (q := .ne) (o := 21) (t := 251) (c := x19 ≠ 2) (by decide +kernel) (ev_k_ne hx19 (by decide)) (by decide +kernel) ?_ ?_
              · intro c69
                refine ev_r_iload_n (pc := 251) (k := 3) (v := Int32.ofInt x19) (by decide +kernel) (by exact e64) ?_
                refine ev_r_iconst (pc := 252) (k := 3) (by decide +kernel) ?_
                refine ev_r_icmp (pc := 253) (q := .ne) (o := 15) (t := 268) (c := x19 ≠ 3) (by decide +kernel) (ev_k_ne hx19 (by decide)) (by decide +kernel) ?_ ?_
                · intro c70
                  refine ev_r_iload_n (pc := 268) (k := 3) (v := Int32.ofInt x19) (by decide +kernel) (by exact e64) ?_
                  refine ev_r_iconst (pc := 269) (k := 4) (by decide +kernel) ?_
                  refine ev_r_icmp (pc := 270) (q := .ne) (o := 61) (t := 331) (c := x19 ≠ 4) (by decide +kernel) (ev_k_ne hx19 (by decide)) (by decide +kernel) ?_ ?_
                  · intro c71
                    refine ev_r_iload_n (pc := 331) (k := 3) (v := Int32.ofInt x19) (by decide +kernel) (by exact e64) ?_
                    refine ev_r_iconst (pc := 332) (k := 5) (by decide +kernel) ?_
                    refine ev_r_icmp (pc := 333) (q := .ne) (o := 26) (t := 359) (c := x19 ≠ 5) (by decide +kernel) (ev_k_ne hx19 (by decide)) (by decide +kernel) ?_ ?_
                    · intro c72
                      refine ev_r_iload_n (pc := 359) (k := 3) (v := Int32.ofInt x19) (by decide +kernel) (by exact e64) ?_
                      refine ev_r_bipush (pc := 360) (k := 6) (by decide +kernel) (by decide +kernel) ?_
                      refine ev_r_icmp (pc := 362) (q := .ne) (o := 15) (t := 377) (c := x19 ≠ 6) (by decide +kernel) (ev_k_ne hx19 (by decide)) (by decide +kernel) ?_ ?_
                      · intro c73
                        refine ev_r_iload_n (pc := 377) (k := 3) (v := Int32.ofInt x19) (by decide +kernel) (by exact e64) ?_
                        refine ev_r_bipush (pc := 378) (k := 7) (by decide +kernel) (by decide +kernel) ?_
                        refine ev_r_icmp (pc := 380) (q := .ne) (o := 58) (t := 438) (c := x19 ≠ 7) (by decide +kernel) (ev_k_ne hx19 (by decide)) (by decide +kernel) ?_ ?_
                        · intro c74
                          refine ev_r_iload_n (pc := 438) (k := 3) (v := Int32.ofInt x19) (by decide +kernel) (by exact e64) ?_
                          refine ev_r_bipush (pc := 439) (k := 8) (by decide +kernel) (by decide +kernel) ?_
                          refine ev_r_icmp (pc := 441) (q := .ne) (o := 17) (t := 458) (c := x19 ≠ 8) (by decide +kernel) (ev_k_ne hx19 (by decide)) (by decide +kernel) ?_ ?_
                          · intro c75
                            refine ev_r_iload_n (pc := 458) (k := 3) (v := Int32.ofInt x19) (by decide +kernel) (by exact e64) ?_
                            refine ev_r_bipush (pc := 459) (k := 9) (by decide +kernel) (by decide +kernel) ?_
                            refine ev_r_icmp (pc := 461) (q := .ne) (o := 23) (t := 484) (c := x19 ≠ 9) (by decide +kernel) (ev_k_ne hx19 (by decide)) (by decide +kernel) ?_ ?_
                            · intro c76
                              refine ev_r_iload_n (pc := 484) (k := 3) (v := Int32.ofInt x19) (by decide +kernel) (by exact e64) ?_
                              refine ev_r_bipush (pc := 485) (k := 10) (by decide +kernel) (by decide +kernel) ?_
                              refine ev_r_icmp (pc := 487) (q := .ne) (o := 30) (t := 517) (c := x19 ≠ 10) (by decide +kernel) (ev_k_ne hx19 (by decide)) (by decide +kernel) ?_ ?_
                              · intro c77
                                exact hK517 x19 hx19 x21 hx21 s67 _ (by exact e61) (by exact e62) (by exact e63) (by exact e64) (by exact e65)
                              · intro c77
                                refine ev_r_aload_n (pc := 490) (k := 0) (v := .ref 621) trivial (by decide +kernel) (by exact e61) ?_
                                refine ev_r_getC (pc := 491) (y := 22) (ci := 13) (f := 7) (fin := 1) (k' := 626) (by decide +kernel) (by decide +kernel) (by exact ev_ob_621) rfl rfl ?_
                                refine ev_r_iload (pc := 494) (k := 4) (v := Int32.ofInt x21) (by decide +kernel) (by exact e65) ?_
                                refine ev_r_iald (pc := 496) hx21 (by decide +kernel) (by exact ev_ab_626) ?_
                                intro x78 hx78
                                refine ev_r_iconst (pc := 497) (k := -1) (by decide +kernel) ?_
                                refine ev_r_icmp (pc := 498) (q := .eq) (o := 19) (t := 517) (c := x78 = (-1)) (by decide +kernel) (ev_k_eq hx78 (by decide)) (by decide +kernel) ?_ ?_
                                · intro c79
                                  exact hK517 x19 hx19 x21 hx21 s67 _ (by exact e61) (by exact e62) (by exact e63) (by exact e64) (by exact e65)
                                · intro c79
                                  refine ev_r_aload_n (pc := 501) (k := 0) (v := .ref 621) trivial (by decide +kernel) (by exact e61) ?_
                                  refine ev_r_bipush (pc := 502) (k := 11) (by decide +kernel) (by decide +kernel) ?_
                                  refine ev_r_iload_n (pc := 504) (k := 2) (v := Int32.ofInt x4) (by decide +kernel) (by exact e63) ?_
                                  refine ev_r_aload_n (pc := 505) (k := 0) (v := .ref 621) trivial (by decide +kernel) (by exact e61) ?_
                                  refine ev_r_getC (pc := 506) (y := 22) (ci := 13) (f := 7) (fin := 1) (k' := 626) (by decide +kernel) (by decide +kernel) (by exact ev_ob_621) rfl rfl ?_
                                  refine ev_r_iload (pc := 509) (k := 4) (v := Int32.ofInt x21) (by decide +kernel) (by exact e65) ?_
                                  refine ev_r_iald (pc := 511) hx21 (by decide +kernel) (by exact ev_ab_626) ?_
                                  intro x80 hx80
                                  refine ev_r_iadd (pc := 512) (by decide +kernel) ?_
                                  intro x81 hx81
                                  refine ev_r_iconst (pc := 513) (k := 0) (by decide +kernel) ?_
                                  refine ev_r_virt (pc := 514) (y := 679) (mi := 310) (na := 3) (k := 621) (as := [.int (Int32.ofInt 11), .int (Int32.ofInt x81), .int (Int32.ofInt 0)]) (rest := []) (encc := ev_oU) (Q := ev_PU) (fun x S1 h => jt_310 d (by omega) Q 11 x81 0 (by decide) hx81 (by decide) s67 x S1 h) (by exact ev_ob_621) (by decide +kernel) (by decide +kernel) (by decide +kernel) (by decide +kernel) rfl (by (try simp only [ev_sum, ev_nv_cat]); first | done | rfl) ?_
                                  intro _ s82 _
                                  show ev_w _ _ _ _ _ [] _ _ _ _
                                  exact hK517 x19 hx19 x21 hx21 s82 _ (by exact e61) (by exact e62) (by exact e63) (by exact e64) (by exact e65)
                            · intro c76
                              refine ev_r_aload_n (pc := 464) (k := 0) (v := .ref 621) trivial (by decide +kernel) (by exact e61) ?_
                              refine ev_r_getC (pc := 465) (y := 135) (ci := 13) (f := 56) (fin := 1) (k' := 663) (by decide +kernel) (by decide +kernel) (by exact ev_ob_621) rfl rfl ?_
                              refine ev_r_sipush (pc := 468) (k := 210) (by decide +kernel) (by decide +kernel) ?_
                              refine ev_r_iload_n (pc := 471) (k := 1) (v := Int32.ofInt a0) (by decide +kernel) (by exact e62) ?_
                              refine ev_r_imul (pc := 472) (by decide +kernel) ?_
                              intro x83 hx83
                              refine ev_r_iload (pc := 473) (k := 5) (v := Int32.ofInt x23) (by decide +kernel) (by exact e66) ?_
                              refine ev_r_iadd (pc := 475) (by decide +kernel) ?_
                              intro x84 hx84
                              refine ev_r_aload_n (pc := 476) (k := 0) (v := .ref 621) trivial (by decide +kernel) (by exact e61) ?_
                              refine ev_r_getI (pc := 477) (y := 673) (ci := 13) (f := 54) (fin := 0) (by decide +kernel) (by decide +kernel) (by exact ev_ob_621) rfl ?_
                              intro x85 hx85
                              refine ev_r_iast (pc := 480) hx85 hx84 (by decide +kernel) (by exact ev_ab_663) ?_
                              intro s86
                              refine ev_r_goto (pc := 481) (o := 36) (t := 517) (by decide +kernel) (by decide +kernel) ?_
                              exact hK517 x19 hx19 x21 hx21 s86 _ (by exact e61) (by exact e62) (by exact e63) (by exact e64) (by exact e65)
                          · intro c75
                            refine ev_r_aload_n (pc := 444) (k := 0) (v := .ref 621) trivial (by decide +kernel) (by exact e61) ?_
                            refine ev_r_iload_n (pc := 445) (k := 1) (v := Int32.ofInt a0) (by decide +kernel) (by exact e62) ?_
                            refine ev_r_iconst (pc := 446) (k := 4) (by decide +kernel) ?_
                            refine ev_r_iload (pc := 447) (k := 5) (v := Int32.ofInt x23) (by decide +kernel) (by exact e66) ?_
                            refine ev_r_iconst (pc := 449) (k := 0) (by decide +kernel) ?_
                            refine ev_r_virt (pc := 450) (y := 682) (mi := 309) (na := 4) (k := 621) (as := [.int (Int32.ofInt a0), .int (Int32.ofInt 4), .int (Int32.ofInt x23), .int (Int32.ofInt 0)]) (rest := []) (encc := ev_oI) (Q := ev_rng) (fun x S1 h => jt_309 d (by omega) Q a0 4 x23 0 ha0 (by decide) hx23 (by decide) s67 x S1 h) (by exact ev_ob_621) (by decide +kernel) (by decide +kernel) (by decide +kernel) (by decide +kernel) rfl (by (try simp only [ev_sum, ev_nv_cat]); first | done | rfl) ?_
                            intro x88 s87 hx88
                            show ev_w _ _ _ _ _ [.int (Int32.ofInt x88)] _ _ _ _
                            refine ev_r_istore (pc := 453) (k := 6) (by decide +kernel) (by decide +kernel) rfl ?_
                            refine ev_r_goto (pc := 455) (o := 62) (t := 517) (by decide +kernel) (by decide +kernel) ?_
                            exact hK517 x19 hx19 x21 hx21 s87 _ (by exact (ev_l1 e61 (by decide) (by decide))) (by exact (ev_l1 e62 (by decide) (by decide))) (by exact (ev_l1 e63 (by decide) (by decide))) (by exact (ev_l1 e64 (by decide) (by decide))) (by exact (ev_l1 e65 (by decide) (by decide)))
                        · intro c74
                          refine ev_r_aload_n (pc := 383) (k := 0) (v := .ref 621) trivial (by decide +kernel) (by exact e61) ?_
                          refine ev_r_iload_n (pc := 384) (k := 1) (v := Int32.ofInt a0) (by decide +kernel) (by exact e62) ?_
                          refine ev_r_iconst (pc := 385) (k := 3) (by decide +kernel) ?_
                          refine ev_r_iconst (pc := 386) (k := 0) (by decide +kernel) ?_
                          refine ev_r_iconst (pc := 387) (k := 0) (by decide +kernel) ?_
                          refine ev_r_virt (pc := 388) (y := 682) (mi := 309) (na := 4) (k := 621) (as := [.int (Int32.ofInt a0), .int (Int32.ofInt 3), .int (Int32.ofInt 0), .int (Int32.ofInt 0)]) (rest := []) (encc := ev_oI) (Q := ev_rng) (fun x S1 h => jt_309 d (by omega) Q a0 3 0 0 ha0 (by decide) (by decide) (by decide) s67 x S1 h) (by exact ev_ob_621) (by decide +kernel) (by decide +kernel) (by decide +kernel) (by decide +kernel) rfl (by (try simp only [ev_sum, ev_nv_cat]); first | done | rfl) ?_
                          intro x90 s89 hx90
                          show ev_w _ _ _ _ _ [.int (Int32.ofInt x90)] _ _ _ _
                          refine ev_r_istore (pc := 391) (k := 6) (by decide +kernel) (by decide +kernel) rfl ?_
                          refine ev_r_aload_n (pc := 393) (k := 0) (v := .ref 621) trivial (by decide +kernel) (by exact (ev_l1 e61 (by decide) (by decide))) ?_
                          refine ev_r_getC (pc := 394) (y := 138) (ci := 13) (f := 57) (fin := 1) (k' := 664) (by decide +kernel) (by decide +kernel) (by exact ev_ob_621) rfl rfl ?_
                          refine ev_r_sipush (pc := 397) (k := 210) (by decide +kernel) (by decide +kernel) ?_
                          refine ev_r_iload_n (pc := 400) (k := 1) (v := Int32.ofInt a0) (by decide +kernel) (by exact (ev_l1 e62 (by decide) (by decide))) ?_
                          refine ev_r_imul (pc := 401) (by decide +kernel) ?_
                          intro x91 hx91
                          refine ev_r_iload (pc := 402) (k := 5) (v := Int32.ofInt x23) (by decide +kernel) (by exact (ev_lk_st1 e66 (by decide) rfl)) ?_
                          refine ev_r_iadd (pc := 404) (by decide +kernel) ?_
                          intro x92 hx92
                          refine ev_r_aload_n (pc := 405) (k := 0) (v := .ref 621) trivial (by decide +kernel) (by exact (ev_l1 e61 (by decide) (by decide))) ?_
                          refine ev_r_getI (pc := 406) (y := 673) (ci := 13) (f := 54) (fin := 0) (by decide +kernel) (by decide +kernel) (by exact ev_ob_621) rfl ?_
                          intro x93 hx93
                          refine ev_r_iast (pc := 409) hx93 hx92 (by decide +kernel) (by exact ev_ab_664) ?_
                          intro s94
                          refine ev_r_aload_n (pc := 410) (k := 0) (v := .ref 621) trivial (by decide +kernel) (by exact (ev_l1 e61 (by decide) (by decide))) ?_
                          refine ev_r_bipush (pc := 411) (k := 9) (by decide +kernel) (by decide +kernel) ?_
                          refine ev_r_iload (pc := 413) (k := 4) (v := Int32.ofInt x21) (by decide +kernel) (by exact (ev_l1 e65 (by decide) (by decide))) ?_
                          refine ev_r_iload (pc := 415) (k := 6) (v := Int32.ofInt x90) (by decide +kernel) (by exact ev_lk_st1_self) ?_
                          refine ev_r_virt (pc := 417) (y := 679) (mi := 310) (na := 3) (k := 621) (as := [.int (Int32.ofInt 9), .int (Int32.ofInt x21), .int (Int32.ofInt x90)]) (rest := []) (encc := ev_oU) (Q := ev_PU) (fun x S1 h => jt_310 d (by omega) Q 9 x21 x90 (by decide) hx21 hx90 s94 x S1 h) (by exact ev_ob_621) (by decide +kernel) (by decide +kernel) (by decide +kernel) (by decide +kernel) rfl (by (try simp only [ev_sum, ev_nv_cat]); first | done | rfl) ?_
                          intro _ s95 _
                          show ev_w _ _ _ _ _ [] _ _ _ _
                          refine ev_r_aload_n (pc := 420) (k := 0) (v := .ref 621) trivial (by decide +kernel) (by exact (ev_l1 e61 (by decide) (by decide))) ?_
                          refine ev_r_iconst (pc := 421) (k := 4) (by decide +kernel) ?_
                          refine ev_r_iload_n (pc := 422) (k := 2) (v := Int32.ofInt x4) (by decide +kernel) (by exact (ev_l1 e63 (by decide) (by decide))) ?_
                          refine ev_r_aload_n (pc := 423) (k := 0) (v := .ref 621) trivial (by decide +kernel) (by exact (ev_l1 e61 (by decide) (by decide))) ?_
                          refine ev_r_getC (pc := 424) (y := 25) (ci := 13) (f := 8) (fin := 1) (k' := 627) (by decide +kernel) (by decide +kernel) (by exact ev_ob_621) rfl rfl ?_
                          refine ev_r_iload (pc := 427) (k := 4) (v := Int32.ofInt x21) (by decide +kernel) (by exact (ev_l1 e65 (by decide) (by decide))) ?_
                          refine ev_r_iald (pc := 429) hx21 (by decide +kernel) (by exact ev_ab_627) ?_
                          intro x96 hx96
                          refine ev_r_iadd (pc := 430) (by decide +kernel) ?_
                          intro x97 hx97
                          refine ev_r_iconst (pc := 431) (k := 0) (by decide +kernel) ?_
                          refine ev_r_virt (pc := 432) (y := 679) (mi := 310) (na := 3) (k := 621) (as := [.int (Int32.ofInt 4), .int (Int32.ofInt x97), .int (Int32.ofInt 0)]) (rest := []) (encc := ev_oU) (Q := ev_PU) (fun x S1 h => jt_310 d (by omega) Q 4 x97 0 (by decide) hx97 (by decide) s95 x S1 h) (by exact ev_ob_621) (by decide +kernel) (by decide +kernel) (by decide +kernel) (by decide +kernel) rfl (by (try simp only [ev_sum, ev_nv_cat]); first | done | rfl) ?_
                          intro _ s98 _
                          show ev_w _ _ _ _ _ [] _ _ _ _
                          refine ev_r_goto (pc := 435) (o := 82) (t := 517) (by decide +kernel) (by decide +kernel) ?_
                          exact hK517 x19 hx19 x21 hx21 s98 _ (by exact (ev_l1 e61 (by decide) (by decide))) (by exact (ev_l1 e62 (by decide) (by decide))) (by exact (ev_l1 e63 (by decide) (by decide))) (by exact (ev_l1 e64 (by decide) (by decide))) (by exact (ev_l1 e65 (by decide) (by decide)))
                      · intro c73
                        refine ev_r_aload_n (pc := 365) (k := 0) (v := .ref 621) trivial (by decide +kernel) (by exact e61) ?_
                        refine ev_r_iload_n (pc := 366) (k := 1) (v := Int32.ofInt a0) (by decide +kernel) (by exact e62) ?_
                        refine ev_r_iload (pc := 367) (k := 4) (v := Int32.ofInt x21) (by decide +kernel) (by exact e65) ?_
                        refine ev_r_iload (pc := 369) (k := 5) (v := Int32.ofInt x23) (by decide +kernel) (by exact e66) ?_
                        refine ev_r_virt (pc := 371) (y := 689) (mi := 312) (na := 3) (k := 621) (as := [.int (Int32.ofInt a0), .int (Int32.ofInt x21), .int (Int32.ofInt x23)]) (rest := []) (encc := ev_oU) (Q := ev_PU) (fun x S1 h => jt_312 d (by omega) Q a0 x21 x23 ha0 hx21 hx23 s67 x S1 h) (by exact ev_ob_621) (by decide +kernel) (by decide +kernel) (by decide +kernel) (by decide +kernel) rfl (by (try simp only [ev_sum, ev_nv_cat]); first | done | rfl) ?_
                        intro _ s99 _
                        show ev_w _ _ _ _ _ [] _ _ _ _
                        refine ev_r_goto (pc := 374) (o := 143) (t := 517) (by decide +kernel) (by decide +kernel) ?_
                        exact hK517 x19 hx19 x21 hx21 s99 _ (by exact e61) (by exact e62) (by exact e63) (by exact e64) (by exact e65)
                    · intro c72
                      refine ev_r_aload_n (pc := 336) (k := 0) (v := .ref 621) trivial (by decide +kernel) (by exact e61) ?_
                      refine ev_r_iload_n (pc := 337) (k := 1) (v := Int32.ofInt a0) (by decide +kernel) (by exact e62) ?_
                      refine ev_r_iconst (pc := 338) (k := 3) (by decide +kernel) ?_
                      refine ev_r_iload (pc := 339) (k := 5) (v := Int32.ofInt x23) (by decide +kernel) (by exact e66) ?_
                      refine ev_r_iconst (pc := 341) (k := 0) (by decide +kernel) ?_
                      refine ev_r_virt (pc := 342) (y := 682) (mi := 309) (na := 4) (k := 621) (as := [.int (Int32.ofInt a0), .int (Int32.ofInt 3), .int (Int32.ofInt x23), .int (Int32.ofInt 0)]) (rest := []) (encc := ev_oI) (Q := ev_rng) (fun x S1 h => jt_309 d (by omega) Q a0 3 x23 0 ha0 (by decide) hx23 (by decide) s67 x S1 h) (by exact ev_ob_621) (by decide +kernel) (by decide +kernel) (by decide +kernel) (by decide +kernel) rfl (by (try simp only [ev_sum, ev_nv_cat]); first | done | rfl) ?_
                      intro x101 s100 hx101
                      show ev_w _ _ _ _ _ [.int (Int32.ofInt x101)] _ _ _ _
                      refine ev_r_istore (pc := 345) (k := 6) (by decide +kernel) (by decide +kernel) rfl ?_
                      refine ev_r_aload_n (pc := 347) (k := 0) (v := .ref 621) trivial (by decide +kernel) (by exact (ev_l1 e61 (by decide) (by decide))) ?_
                      refine ev_r_iload_n (pc := 348) (k := 1) (v := Int32.ofInt a0) (by decide +kernel) (by exact (ev_l1 e62 (by decide) (by decide))) ?_
                      refine ev_r_iload (pc := 349) (k := 4) (v := Int32.ofInt x21) (by decide +kernel) (by exact (ev_l1 e65 (by decide) (by decide))) ?_
                      refine ev_r_iload (pc := 351) (k := 5) (v := Int32.ofInt x23) (by decide +kernel) (by exact (ev_lk_st1 e66 (by decide) rfl)) ?_
                      refine ev_r_virt (pc := 353) (y := 689) (mi := 312) (na := 3) (k := 621) (as := [.int (Int32.ofInt a0), .int (Int32.ofInt x21), .int (Int32.ofInt x23)]) (rest := []) (encc := ev_oU) (Q := ev_PU) (fun x S1 h => jt_312 d (by omega) Q a0 x21 x23 ha0 hx21 hx23 s100 x S1 h) (by exact ev_ob_621) (by decide +kernel) (by decide +kernel) (by decide +kernel) (by decide +kernel) rfl (by (try simp only [ev_sum, ev_nv_cat]); first | done | rfl) ?_
                      intro _ s102 _
                      show ev_w _ _ _ _ _ [] _ _ _ _
                      refine ev_r_goto (pc := 356) (o := 161) (t := 517) (by decide +kernel) (by decide +kernel) ?_
                      exact hK517 x19 hx19 x21 hx21 s102 _ (by exact (ev_l1 e61 (by decide) (by decide))) (by exact (ev_l1 e62 (by decide) (by decide))) (by exact (ev_l1 e63 (by decide) (by decide))) (by exact (ev_l1 e64 (by decide) (by decide))) (by exact (ev_l1 e65 (by decide) (by decide)))
                  · intro c71
                    refine ev_r_aload_n (pc := 273) (k := 0) (v := .ref 621) trivial (by decide +kernel) (by exact e61) ?_
                    refine ev_r_getC (pc := 274) (y := 25) (ci := 13) (f := 8) (fin := 1) (k' := 627) (by decide +kernel) (by decide +kernel) (by exact ev_ob_621) rfl rfl ?_
                    refine ev_r_iload (pc := 277) (k := 4) (v := Int32.ofInt x21) (by decide +kernel) (by exact e65) ?_
                    refine ev_r_iald (pc := 279) hx21 (by decide +kernel) (by exact ev_ab_627) ?_
                    intro x103 hx103
                    refine ev_r_iconst (pc := 280) (k := -1) (by decide +kernel) ?_
                    refine ev_r_jn (Q := fun K => ∀ (x104 : Int) (hx104 : ev_rng x104), ∀ (s111 : ev_St) (w105 : List (Nat × Value)), ev_lk w105 0 = some (.ref 621) → ev_lk w105 1 = some (.int (Int32.ofInt a0)) → ev_lk w105 2 = some (.int (Int32.ofInt x4)) → ev_lk w105 3 = some (.int (Int32.ofInt x19)) → ev_lk w105 4 = some (.int (Int32.ofInt x21)) → ev_w none (ev_Mof 313) d 301 w105 [.int (Int32.ofInt x104)] s111 (K x104 s111) ev_eU ev_PU) ?_ ?_
                    · intro x104 hx104 s111 w105 e106 e107 e108 e109 e110
                      refine ev_r_istore (pc := 301) (k := 6) (by decide +kernel) (by decide +kernel) rfl ?_
                      refine ev_r_iload (pc := 303) (k := 6) (v := Int32.ofInt x104) (by decide +kernel) (by exact ev_lk_st1_self) ?_
                      refine ev_r_iconst (pc := 305) (k := -1) (by decide +kernel) ?_
                      refine ev_r_jn (Q := fun K => ∀ (s118 : ev_St) (w112 : List (Nat × Value)), ev_lk w112 0 = some (.ref 621) → ev_lk w112 1 = some (.int (Int32.ofInt a0)) → ev_lk w112 2 = some (.int (Int32.ofInt x4)) → ev_lk w112 3 = some (.int (Int32.ofInt x19)) → ev_lk w112 4 = some (.int (Int32.ofInt x21)) → ev_w none (ev_Mof 313) d 319 w112 [] s118 (K  s118) ev_eU ev_PU) ?_ ?_
                      · intro  s118 w112 e113 e114 e115 e116 e117
                        refine ev_r_aload_n (pc := 319) (k := 0) (v := .ref 621) trivial (by decide +kernel) (by exact e113) ?_
                        refine ev_r_bipush (pc := 320) (k := 10) (by decide +kernel) (by decide +kernel) ?_
                        refine ev_r_iload (pc := 322) (k := 4) (v := Int32.ofInt x21) (by decide +kernel) (by exact e117) ?_
                        refine ev_r_iconst (pc := 324) (k := 0) (by decide +kernel) ?_
                        refine ev_r_virt (pc := 325) (y := 679) (mi := 310) (na := 3) (k := 621) (as := [.int (Int32.ofInt 10), .int (Int32.ofInt x21), .int (Int32.ofInt 0)]) (rest := []) (encc := ev_oU) (Q := ev_PU) (fun x S1 h => jt_310 d (by omega) Q 10 x21 0 (by decide) hx21 (by decide) s118 x S1 h) (by exact ev_ob_621) (by decide +kernel) (by decide +kernel) (by decide +kernel) (by decide +kernel) rfl (by (try simp only [ev_sum, ev_nv_cat]); first | done | rfl) ?_
                        intro _ s119 _
                        show ev_w _ _ _ _ _ [] _ _ _ _
                        refine ev_r_goto (pc := 328) (o := 189) (t := 517) (by decide +kernel) (by decide +kernel) ?_
                        exact hK517 x19 hx19 x21 hx21 s119 _ (by exact e113) (by exact e114) (by exact e115) (by exact e116) (by exact e117)
                      · intro K319 hK319
                        refine ev_r_icmp (pc := 306) (q := .eq) (o := 13) (t := 319) (c := x104 = (-1)) (by decide +kernel) (ev_k_eq hx104 (by decide)) (by decide +kernel) ?_ ?_
                        · intro c120
                          exact hK319  s111 _ (by exact (ev_l1 e106 (by decide) (by decide))) (by exact (ev_l1 e107 (by decide) (by decide))) (by exact (ev_l1 e108 (by decide) (by decide))) (by exact (ev_l1 e109 (by decide) (by decide))) (by exact (ev_l1 e110 (by decide) (by decide)))
                        · intro c120
                          refine ev_r_aload_n (pc := 309) (k := 0) (v := .ref 621) trivial (by decide +kernel) (by exact (ev_l1 e106 (by decide) (by decide))) ?_
                          refine ev_r_bipush (pc := 310) (k := 7) (by decide +kernel) (by decide +kernel) ?_
                          refine ev_r_iload (pc := 312) (k := 4) (v := Int32.ofInt x21) (by decide +kernel) (by exact (ev_l1 e110 (by decide) (by decide))) ?_
                          refine ev_r_iload (pc := 314) (k := 6) (v := Int32.ofInt x104) (by decide +kernel) (by exact ev_lk_st1_self) ?_
                          refine ev_r_virt (pc := 316) (y := 679) (mi := 310) (na := 3) (k := 621) (as := [.int (Int32.ofInt 7), .int (Int32.ofInt x21), .int (Int32.ofInt x104)]) (rest := []) (encc := ev_oU) (Q := ev_PU) (fun x S1 h => jt_310 d (by omega) Q 7 x21 x104 (by decide) hx21 hx104 s111 x S1 h) (by exact ev_ob_621) (by decide +kernel) (by decide +kernel) (by decide +kernel) (by decide +kernel) rfl (by (try simp only [ev_sum, ev_nv_cat]); first | done | rfl) ?_
                          intro _ s121 _
                          show ev_w _ _ _ _ _ [] _ _ _ _
                          exact hK319  s121 _ (by exact (ev_l1 e106 (by decide) (by decide))) (by exact (ev_l1 e107 (by decide) (by decide))) (by exact (ev_l1 e108 (by decide) (by decide))) (by exact (ev_l1 e109 (by decide) (by decide))) (by exact (ev_l1 e110 (by decide) (by decide)))
                    · intro K301 hK301
                      refine ev_r_icmp (pc := 281) (q := .ne) (o := 7) (t := 288) (c := x103 ≠ (-1)) (by decide +kernel) (ev_k_ne hx103 (by decide)) (by decide +kernel) ?_ ?_
                      · intro c122
                        refine ev_r_aload_n (pc := 288) (k := 0) (v := .ref 621) trivial (by decide +kernel) (by exact e61) ?_
                        refine ev_r_iload_n (pc := 289) (k := 1) (v := Int32.ofInt a0) (by decide +kernel) (by exact e62) ?_
                        refine ev_r_iconst (pc := 290) (k := 2) (by decide +kernel) ?_
                        refine ev_r_aload_n (pc := 291) (k := 0) (v := .ref 621) trivial (by decide +kernel) (by exact e61) ?_
                        refine ev_r_getI (pc := 292) (y := 673) (ci := 13) (f := 54) (fin := 0) (by decide +kernel) (by decide +kernel) (by exact ev_ob_621) rfl ?_
                        intro x123 hx123
                        refine ev_r_iconst (pc := 295) (k := 1) (by decide +kernel) ?_
                        refine ev_r_iadd (pc := 296) (by decide +kernel) ?_
                        intro x124 hx124
                        refine ev_r_iconst (pc := 297) (k := 0) (by decide +kernel) ?_
                        refine ev_r_virt (pc := 298) (y := 682) (mi := 309) (na := 4) (k := 621) (as := [.int (Int32.ofInt a0), .int (Int32.ofInt 2), .int (Int32.ofInt x124), .int (Int32.ofInt 0)]) (rest := []) (encc := ev_oI) (Q := ev_rng) (fun x S1 h => jt_309 d (by omega) Q a0 2 x124 0 ha0 (by decide) hx124 (by decide) s67 x S1 h) (by exact ev_ob_621) (by decide +kernel) (by decide +kernel) (by decide +kernel) (by decide +kernel) rfl (by (try simp only [ev_sum, ev_nv_cat]); first | done | rfl) ?_
                        intro x126 s125 hx126
                        show ev_w _ _ _ _ _ [.int (Int32.ofInt x126)] _ _ _ _
                        exact hK301 x126 hx126 s125 _ (by exact e61) (by exact e62) (by exact e63) (by exact e64) (by exact e65)
                      · intro c122
                        refine ev_r_iconst (pc := 284) (k := -1) (by decide +kernel) ?_
                        refine ev_r_goto (pc := 285) (o := 16) (t := 301) (by decide +kernel) (by decide +kernel) ?_
                        exact hK301 ((-1)) (by decide) s67 _ (by exact e61) (by exact e62) (by exact e63) (by exact e64) (by exact e65)
                · intro c70
                  refine ev_r_aload_n (pc := 256) (k := 0) (v := .ref 621) trivial (by decide +kernel) (by exact e61) ?_
                  refine ev_r_iload_n (pc := 257) (k := 1) (v := Int32.ofInt a0) (by decide +kernel) (by exact e62) ?_
                  refine ev_r_iload (pc := 258) (k := 4) (v := Int32.ofInt x21) (by decide +kernel) (by exact e65) ?_
                  refine ev_r_iload (pc := 260) (k := 5) (v := Int32.ofInt x23) (by decide +kernel) (by exact e66) ?_
                  refine ev_r_virt (pc := 262) (y := 686) (mi := 311) (na := 3) (k := 621) (as := [.int (Int32.ofInt a0), .int (Int32.ofInt x21), .int (Int32.ofInt x23)]) (rest := []) (encc := ev_oU) (Q := ev_PU) (fun x S1 h => jt_311 d (by omega) Q a0 x21 x23 ha0 hx21 hx23 s67 x S1 h) (by exact ev_ob_621) (by decide +kernel) (by decide +kernel) (by decide +kernel) (by decide +kernel) rfl (by (try simp only [ev_sum, ev_nv_cat]); first | done | rfl) ?_
                  intro _ s127 _
                  show ev_w _ _ _ _ _ [] _ _ _ _
                  refine ev_r_goto (pc := 265) (o := 252) (t := 517) (by decide +kernel) (by decide +kernel) ?_
                  exact hK517 x19 hx19 x21 hx21 s127 _ (by exact e61) (by exact e62) (by exact e63) (by exact e64) (by exact e65)
              · intro c69
                refine ev_r_aload_n (pc := 233) (k := 0) (v := .ref 621) trivial (by decide +kernel) (by exact e61) ?_
                refine ev_r_iconst (pc := 234) (k := 4) (by decide +kernel) ?_
                refine ev_r_iload_n (pc := 235) (k := 2) (v := Int32.ofInt x4) (by decide +kernel) (by exact e63) ?_
                refine ev_r_aload_n (pc := 236) (k := 0) (v := .ref 621) trivial (by decide +kernel) (by exact e61) ?_
                refine ev_r_getC (pc := 237) (y := 22) (ci := 13) (f := 7) (fin := 1) (k' := 626) (by decide +kernel) (by decide +kernel) (by exact ev_ob_621) rfl rfl ?_
                refine ev_r_iload (pc := 240) (k := 4) (v := Int32.ofInt x21) (by decide +kernel) (by exact e65) ?_
                refine ev_r_iald (pc := 242) hx21 (by decide +kernel) (by exact ev_ab_626) ?_
                intro x128 hx128
                refine ev_r_iadd (pc := 243) (by decide +kernel) ?_
                intro x129 hx129
                refine ev_r_iconst (pc := 244) (k := 0) (by decide +kernel) ?_
                refine ev_r_virt (pc := 245) (y := 679) (mi := 310) (na := 3) (k := 621) (as := [.int (Int32.ofInt 4), .int (Int32.ofInt x129), .int (Int32.ofInt 0)]) (rest := []) (encc := ev_oU) (Q := ev_PU) (fun x S1 h => jt_310 d (by omega) Q 4 x129 0 (by decide) hx129 (by decide) s67 x S1 h) (by exact ev_ob_621) (by decide +kernel) (by decide +kernel) (by decide +kernel) (by decide +kernel) rfl (by (try simp only [ev_sum, ev_nv_cat]); first | done | rfl) ?_
                intro _ s130 _
                show ev_w _ _ _ _ _ [] _ _ _ _
                refine ev_r_goto (pc := 248) (o := 269) (t := 517) (by decide +kernel) (by decide +kernel) ?_
                exact hK517 x19 hx19 x21 hx21 s130 _ (by exact e61) (by exact e62) (by exact e63) (by exact e64) (by exact e65)
            · intro c68
              refine ev_r_aload_n (pc := 217) (k := 0) (v := .ref 621) trivial (by decide +kernel) (by exact e61) ?_
              refine ev_r_iconst (pc := 218) (k := 2) (by decide +kernel) ?_
              refine ev_r_iload (pc := 219) (k := 4) (v := Int32.ofInt x21) (by decide +kernel) (by exact e65) ?_
              refine ev_r_iconst (pc := 221) (k := 0) (by decide +kernel) ?_
              refine ev_r_virt (pc := 222) (y := 679) (mi := 310) (na := 3) (k := 621) (as := [.int (Int32.ofInt 2), .int (Int32.ofInt x21), .int (Int32.ofInt 0)]) (rest := []) (encc := ev_oU) (Q := ev_PU) (fun x S1 h => jt_310 d (by omega) Q 2 x21 0 (by decide) hx21 (by decide) s67 x S1 h) (by exact ev_ob_621) (by decide +kernel) (by decide +kernel) (by decide +kernel) (by decide +kernel) rfl (by (try simp only [ev_sum, ev_nv_cat]); first | done | rfl) ?_
              intro _ s131 _
              show ev_w _ _ _ _ _ [] _ _ _ _
              refine ev_r_goto (pc := 225) (o := 292) (t := 517) (by decide +kernel) (by decide +kernel) ?_
              exact hK517 x19 hx19 x21 hx21 s131 _ (by exact e61) (by exact e62) (by exact e63) (by exact e64) (by exact e65)
          · intro K212 hK212
            refine ev_r_icmp (pc := 149) (q := .ne) (o := 63) (t := 212) (c := x19 ≠ 1) (by decide +kernel) (ev_k_ne hx19 (by decide)) (by decide +kernel) ?_ ?_
            · intro c132
              exact hK212  s59 _ (by exact e53) (by exact e54) (by exact e55) (by exact e56) (by exact e57) (by exact e58)
            · intro c132
              refine ev_r_aload_n (pc := 152) (k := 0) (v := .ref 621) trivial (by decide +kernel) (by exact e53) ?_
              refine ev_r_getC (pc := 153) (y := 19) (ci := 13) (f := 6) (fin := 1) (k' := 625) (by decide +kernel) (by decide +kernel) (by exact ev_ob_621) rfl rfl ?_
              refine ev_r_iload (pc := 156) (k := 4) (v := Int32.ofInt x21) (by decide +kernel) (by exact e57) ?_
              refine ev_r_iald (pc := 158) hx21 (by decide +kernel) (by exact ev_ab_625) ?_
              intro x133 hx133
              refine ev_r_bipush (pc := 159) (k := 8) (by decide +kernel) (by decide +kernel) ?_
              refine ev_r_icmp (pc := 161) (q := .ne) (o := 51) (t := 212) (c := x133 ≠ 8) (by decide +kernel) (ev_k_ne hx133 (by decide)) (by decide +kernel) ?_ ?_
              · intro c134
                exact hK212  s59 _ (by exact e53) (by exact e54) (by exact e55) (by exact e56) (by exact e57) (by exact e58)
              · intro c134
                refine ev_r_aload_n (pc := 164) (k := 0) (v := .ref 621) trivial (by decide +kernel) (by exact e53) ?_
                refine ev_r_iload_n (pc := 165) (k := 1) (v := Int32.ofInt a0) (by decide +kernel) (by exact e54) ?_
                refine ev_r_iconst (pc := 166) (k := 4) (by decide +kernel) ?_
                refine ev_r_iconst (pc := 167) (k := 2) (by decide +kernel) ?_
                refine ev_r_aload_n (pc := 168) (k := 0) (v := .ref 621) trivial (by decide +kernel) (by exact e53) ?_
                refine ev_r_getC (pc := 169) (y := 28) (ci := 13) (f := 9) (fin := 1) (k' := 628) (by decide +kernel) (by decide +kernel) (by exact ev_ob_621) rfl rfl ?_
                refine ev_r_iload (pc := 172) (k := 4) (v := Int32.ofInt x21) (by decide +kernel) (by exact e57) ?_
                refine ev_r_iald (pc := 174) hx21 (by decide +kernel) (by exact ev_ab_628) ?_
                intro x135 hx135
                refine ev_r_imul (pc := 175) (by decide +kernel) ?_
                intro x136 hx136
                refine ev_r_iconst (pc := 176) (k := 0) (by decide +kernel) ?_
                refine ev_r_virt (pc := 177) (y := 682) (mi := 309) (na := 4) (k := 621) (as := [.int (Int32.ofInt a0), .int (Int32.ofInt 4), .int (Int32.ofInt x136), .int (Int32.ofInt 0)]) (rest := []) (encc := ev_oI) (Q := ev_rng) (fun x S1 h => jt_309 d (by omega) Q a0 4 x136 0 ha0 (by decide) hx136 (by decide) s59 x S1 h) (by exact ev_ob_621) (by decide +kernel) (by decide +kernel) (by decide +kernel) (by decide +kernel) rfl (by (try simp only [ev_sum, ev_nv_cat]); first | done | rfl) ?_
                intro x138 s137 hx138
                show ev_w _ _ _ _ _ [.int (Int32.ofInt x138)] _ _ _ _
                refine ev_r_istore (pc := 180) (k := 6) (by decide +kernel) (by decide +kernel) rfl ?_
                refine ev_r_aload_n (pc := 182) (k := 0) (v := .ref 621) trivial (by decide +kernel) (by exact (ev_l1 e53 (by decide) (by decide))) ?_
                refine ev_r_bipush (pc := 183) (k := 8) (by decide +kernel) (by decide +kernel) ?_
                refine ev_r_iload (pc := 185) (k := 4) (v := Int32.ofInt x21) (by decide +kernel) (by exact (ev_l1 e57 (by decide) (by decide))) ?_
                refine ev_r_iconst (pc := 187) (k := 2) (by decide +kernel) ?_
                refine ev_r_aload_n (pc := 188) (k := 0) (v := .ref 621) trivial (by decide +kernel) (by exact (ev_l1 e53 (by decide) (by decide))) ?_
                refine ev_r_getC (pc := 189) (y := 28) (ci := 13) (f := 9) (fin := 1) (k' := 628) (by decide +kernel) (by decide +kernel) (by exact ev_ob_621) rfl rfl ?_
                refine ev_r_iload (pc := 192) (k := 4) (v := Int32.ofInt x21) (by decide +kernel) (by exact (ev_l1 e57 (by decide) (by decide))) ?_
                refine ev_r_iald (pc := 194) hx21 (by decide +kernel) (by exact ev_ab_628) ?_
                intro x139 hx139
                refine ev_r_imul (pc := 195) (by decide +kernel) ?_
                intro x140 hx140
                refine ev_r_iconst (pc := 196) (k := 1) (by decide +kernel) ?_
                refine ev_r_iadd (pc := 197) (by decide +kernel) ?_
                intro x141 hx141
                refine ev_r_virt (pc := 198) (y := 679) (mi := 310) (na := 3) (k := 621) (as := [.int (Int32.ofInt 8), .int (Int32.ofInt x21), .int (Int32.ofInt x141)]) (rest := []) (encc := ev_oU) (Q := ev_PU) (fun x S1 h => jt_310 d (by omega) Q 8 x21 x141 (by decide) hx21 hx141 s137 x S1 h) (by exact ev_ob_621) (by decide +kernel) (by decide +kernel) (by decide +kernel) (by decide +kernel) rfl (by (try simp only [ev_sum, ev_nv_cat]); first | done | rfl) ?_
                intro _ s142 _
                show ev_w _ _ _ _ _ [] _ _ _ _
                refine ev_r_aload_n (pc := 201) (k := 0) (v := .ref 621) trivial (by decide +kernel) (by exact (ev_l1 e53 (by decide) (by decide))) ?_
                refine ev_r_iconst (pc := 202) (k := 2) (by decide +kernel) ?_
                refine ev_r_iload (pc := 203) (k := 4) (v := Int32.ofInt x21) (by decide +kernel) (by exact (ev_l1 e57 (by decide) (by decide))) ?_
                refine ev_r_iconst (pc := 205) (k := 0) (by decide +kernel) ?_
                refine ev_r_virt (pc := 206) (y := 679) (mi := 310) (na := 3) (k := 621) (as := [.int (Int32.ofInt 2), .int (Int32.ofInt x21), .int (Int32.ofInt 0)]) (rest := []) (encc := ev_oU) (Q := ev_PU) (fun x S1 h => jt_310 d (by omega) Q 2 x21 0 (by decide) hx21 (by decide) s142 x S1 h) (by exact ev_ob_621) (by decide +kernel) (by decide +kernel) (by decide +kernel) (by decide +kernel) rfl (by (try simp only [ev_sum, ev_nv_cat]); first | done | rfl) ?_
                intro _ s143 _
                show ev_w _ _ _ _ _ [] _ _ _ _
                refine ev_r_goto (pc := 209) (o := 308) (t := 517) (by decide +kernel) (by decide +kernel) ?_
                exact hK517 x19 hx19 x21 hx21 s143 _ (by exact (ev_l1 e53 (by decide) (by decide))) (by exact (ev_l1 e54 (by decide) (by decide))) (by exact (ev_l1 e55 (by decide) (by decide))) (by exact (ev_l1 e56 (by decide) (by decide))) (by exact (ev_l1 e57 (by decide) (by decide)))
        · intro K147 hK147
          refine ev_r_icmp (pc := 104) (q := .ne) (o := 43) (t := 147) (c := x19 ≠ 1) (by decide +kernel) (ev_k_ne hx19 (by decide)) (by decide +kernel) ?_ ?_
          · intro c144
            exact hK147  s17 _ (by exact (ev_l1 (ev_l1 (ev_l1 e6 (by decide) (by decide)) (by decide) (by decide)) (by decide) (by decide))) (by exact (ev_l1 (ev_l1 (ev_l1 e7 (by decide) (by decide)) (by decide) (by decide)) (by decide) (by decide))) (by exact (ev_l1 (ev_l1 (ev_lk_st1 e8 (by decide) rfl) (by decide) (by decide)) (by decide) (by decide))) (by exact (ev_l1 (ev_lk_st1 ev_lk_st1_self (by decide) rfl) (by decide) (by decide))) (by exact (ev_lk_st1 ev_lk_st1_self (by decide) rfl)) (by exact ev_lk_st1_self)
          · intro c144
            refine ev_r_aload_n (pc := 107) (k := 0) (v := .ref 621) trivial (by decide +kernel) (by exact (ev_l1 (ev_l1 (ev_l1 e6 (by decide) (by decide)) (by decide) (by decide)) (by decide) (by decide))) ?_
            refine ev_r_getC (pc := 108) (y := 19) (ci := 13) (f := 6) (fin := 1) (k' := 625) (by decide +kernel) (by decide +kernel) (by exact ev_ob_621) rfl rfl ?_
            refine ev_r_iload (pc := 111) (k := 4) (v := Int32.ofInt x21) (by decide +kernel) (by exact (ev_lk_st1 ev_lk_st1_self (by decide) rfl)) ?_
            refine ev_r_iald (pc := 113) hx21 (by decide +kernel) (by exact ev_ab_625) ?_
            intro x145 hx145
            refine ev_r_bipush (pc := 114) (k := 7) (by decide +kernel) (by decide +kernel) ?_
            refine ev_r_icmp (pc := 116) (q := .ge) (o := 31) (t := 147) (c := 7 ≤ x145) (by decide +kernel) (ev_k_ge hx145 (by decide)) (by decide +kernel) ?_ ?_
            · intro c146
              exact hK147  s17 _ (by exact (ev_l1 (ev_l1 (ev_l1 e6 (by decide) (by decide)) (by decide) (by decide)) (by decide) (by decide))) (by exact (ev_l1 (ev_l1 (ev_l1 e7 (by decide) (by decide)) (by decide) (by decide)) (by decide) (by decide))) (by exact (ev_l1 (ev_l1 (ev_lk_st1 e8 (by decide) rfl) (by decide) (by decide)) (by decide) (by decide))) (by exact (ev_l1 (ev_lk_st1 ev_lk_st1_self (by decide) rfl) (by decide) (by decide))) (by exact (ev_lk_st1 ev_lk_st1_self (by decide) rfl)) (by exact ev_lk_st1_self)
            · intro c146
              refine ev_r_aload_n (pc := 119) (k := 0) (v := .ref 621) trivial (by decide +kernel) (by exact (ev_l1 (ev_l1 (ev_l1 e6 (by decide) (by decide)) (by decide) (by decide)) (by decide) (by decide))) ?_
              refine ev_r_iload_n (pc := 120) (k := 1) (v := Int32.ofInt a0) (by decide +kernel) (by exact (ev_l1 (ev_l1 (ev_l1 e7 (by decide) (by decide)) (by decide) (by decide)) (by decide) (by decide))) ?_
              refine ev_r_aload_n (pc := 121) (k := 0) (v := .ref 621) trivial (by decide +kernel) (by exact (ev_l1 (ev_l1 (ev_l1 e6 (by decide) (by decide)) (by decide) (by decide)) (by decide) (by decide))) ?_
              refine ev_r_getC (pc := 122) (y := 19) (ci := 13) (f := 6) (fin := 1) (k' := 625) (by decide +kernel) (by decide +kernel) (by exact ev_ob_621) rfl rfl ?_
              refine ev_r_iload (pc := 125) (k := 4) (v := Int32.ofInt x21) (by decide +kernel) (by exact (ev_lk_st1 ev_lk_st1_self (by decide) rfl)) ?_
              refine ev_r_iald (pc := 127) hx21 (by decide +kernel) (by exact ev_ab_625) ?_
              intro x147 hx147
              refine ev_r_jn (Q := fun K => ∀ (x149 : Int) (hx149 : ev_rng x149), ∀ (x148 : Int) (hx148 : ev_rng x148), ∀ (s156 : ev_St) (w150 : List (Nat × Value)), ev_lk w150 0 = some (.ref 621) → ev_lk w150 1 = some (.int (Int32.ofInt a0)) → ev_lk w150 2 = some (.int (Int32.ofInt x4)) → ev_lk w150 3 = some (.int (Int32.ofInt x19)) → ev_lk w150 4 = some (.int (Int32.ofInt x21)) → ev_w none (ev_Mof 313) d 136 w150 [.int (Int32.ofInt x149), .int (Int32.ofInt x148), .ref 621] s156 (K x149 x148 s156) ev_eU ev_PU) ?_ ?_
              · intro x149 hx149 x148 hx148 s156 w150 e151 e152 e153 e154 e155
                refine ev_r_iload (pc := 136) (k := 4) (v := Int32.ofInt x21) (by decide +kernel) (by exact e155) ?_
                refine ev_r_iconst (pc := 138) (k := 0) (by decide +kernel) ?_
                refine ev_r_virt (pc := 139) (y := 682) (mi := 309) (na := 4) (k := 621) (as := [.int (Int32.ofInt x148), .int (Int32.ofInt x149), .int (Int32.ofInt x21), .int (Int32.ofInt 0)]) (rest := []) (encc := ev_oI) (Q := ev_rng) (fun x S1 h => jt_309 d (by omega) Q x148 x149 x21 0 hx148 hx149 hx21 (by decide) s156 x S1 h) (by exact ev_ob_621) (by decide +kernel) (by decide +kernel) (by decide +kernel) (by decide +kernel) rfl (by (try simp only [ev_sum, ev_nv_cat]); first | done | rfl) ?_
                intro x158 s157 hx158
                show ev_w _ _ _ _ _ [.int (Int32.ofInt x158)] _ _ _ _
                refine ev_r_istore (pc := 142) (k := 6) (by decide +kernel) (by decide +kernel) rfl ?_
                refine ev_r_goto (pc := 144) (o := 373) (t := 517) (by decide +kernel) (by decide +kernel) ?_
                exact hK517 x19 hx19 x21 hx21 s157 _ (by exact (ev_l1 e151 (by decide) (by decide))) (by exact (ev_l1 e152 (by decide) (by decide))) (by exact (ev_l1 e153 (by decide) (by decide))) (by exact (ev_l1 e154 (by decide) (by decide))) (by exact (ev_l1 e155 (by decide) (by decide)))
              · intro K136 hK136
                refine ev_r_if (pc := 128) (q := .ne) (o := 7) (t := 135) (c := x147 ≠ 0) (by decide +kernel) (ev_k_ne hx147 ev_rng0) (by decide +kernel) ?_ ?_
                · intro c159
                  refine ev_r_iconst (pc := 135) (k := 1) (by decide +kernel) ?_
                  exact hK136 1 (by decide) a0 ha0 s17 _ (by exact (ev_l1 (ev_l1 (ev_l1 e6 (by decide) (by decide)) (by decide) (by decide)) (by decide) (by decide))) (by exact (ev_l1 (ev_l1 (ev_l1 e7 (by decide) (by decide)) (by decide) (by decide)) (by decide) (by decide))) (by exact (ev_l1 (ev_l1 (ev_lk_st1 e8 (by decide) rfl) (by decide) (by decide)) (by decide) (by decide))) (by exact (ev_l1 (ev_lk_st1 ev_lk_st1_self (by decide) rfl) (by decide) (by decide))) (by exact (ev_lk_st1 ev_lk_st1_self (by decide) rfl))
                · intro c159
                  refine ev_r_iconst (pc := 131) (k := 0) (by decide +kernel) ?_
                  refine ev_r_goto (pc := 132) (o := 4) (t := 136) (by decide +kernel) (by decide +kernel) ?_
                  exact hK136 0 (by decide) a0 ha0 s17 _ (by exact (ev_l1 (ev_l1 (ev_l1 e6 (by decide) (by decide)) (by decide) (by decide)) (by decide) (by decide))) (by exact (ev_l1 (ev_l1 (ev_l1 e7 (by decide) (by decide)) (by decide) (by decide)) (by decide) (by decide))) (by exact (ev_l1 (ev_l1 (ev_lk_st1 e8 (by decide) rfl) (by decide) (by decide)) (by decide) (by decide))) (by exact (ev_l1 (ev_lk_st1 ev_lk_st1_self (by decide) rfl) (by decide) (by decide))) (by exact (ev_lk_st1 ev_lk_st1_self (by decide) rfl))
      · intro c51
        refine ev_r_aload_n (pc := 76) (k := 0) (v := .ref 621) trivial (by decide +kernel) (by exact (ev_l1 (ev_l1 (ev_l1 e6 (by decide) (by decide)) (by decide) (by decide)) (by decide) (by decide))) ?_
        refine ev_r_aload_n (pc := 77) (k := 0) (v := .ref 621) trivial (by decide +kernel) (by exact (ev_l1 (ev_l1 (ev_l1 e6 (by decide) (by decide)) (by decide) (by decide)) (by decide) (by decide))) ?_
        refine ev_r_getC (pc := 78) (y := 34) (ci := 13) (f := 11) (fin := 1) (k' := 630) (by decide +kernel) (by decide +kernel) (by exact ev_ob_621) rfl rfl ?_
        refine ev_r_iload (pc := 81) (k := 4) (v := Int32.ofInt x21) (by decide +kernel) (by exact (ev_lk_st1 ev_lk_st1_self (by decide) rfl)) ?_
        refine ev_r_iald (pc := 83) hx21 (by decide +kernel) (by exact ev_ab_630) ?_
        intro x160 hx160
        refine ev_r_iconst (pc := 84) (k := -1) (by decide +kernel) ?_
        refine ev_r_jn (Q := fun K => ∀ (x161 : Int) (hx161 : ev_rng x161), ∀ (s168 : ev_St) (w162 : List (Nat × Value)), ev_lk w162 0 = some (.ref 621) → ev_lk w162 1 = some (.int (Int32.ofInt a0)) → ev_lk w162 2 = some (.int (Int32.ofInt x4)) → ev_lk w162 3 = some (.int (Int32.ofInt x19)) → ev_lk w162 4 = some (.int (Int32.ofInt x21)) → ev_w none (ev_Mof 313) d 93 w162 [.int (Int32.ofInt x161), .ref 621] s168 (K x161 s168) ev_eU ev_PU) ?_ ?_
        · intro x161 hx161 s168 w162 e163 e164 e165 e166 e167
          refine ev_r_iload (pc := 93) (k := 4) (v := Int32.ofInt x21) (by decide +kernel) (by exact e167) ?_
          refine ev_r_iconst (pc := 95) (k := 0) (by decide +kernel) ?_
          refine ev_r_virt (pc := 96) (y := 679) (mi := 310) (na := 3) (k := 621) (as := [.int (Int32.ofInt x161), .int (Int32.ofInt x21), .int (Int32.ofInt 0)]) (rest := []) (encc := ev_oU) (Q := ev_PU) (fun x S1 h => jt_310 d (by omega) Q x161 x21 0 hx161 hx21 (by decide) s168 x S1 h) (by exact ev_ob_621) (by decide +kernel) (by decide +kernel) (by decide +kernel) (by decide +kernel) rfl (by (try simp only [ev_sum, ev_nv_cat]); first | done | rfl) ?_
          intro _ s169 _
          show ev_w _ _ _ _ _ [] _ _ _ _
          refine ev_r_goto (pc := 99) (o := 418) (t := 517) (by decide +kernel) (by decide +kernel) ?_
          exact hK517 x19 hx19 x21 hx21 s169 _ (by exact e163) (by exact e164) (by exact e165) (by exact e166) (by exact e167)
        · intro K93 hK93
          refine ev_r_icmp (pc := 85) (q := .ne) (o := 7) (t := 92) (c := x160 ≠ (-1)) (by decide +kernel) (ev_k_ne hx160 (by decide)) (by decide +kernel) ?_ ?_
          · intro c170
            refine ev_r_iconst (pc := 92) (k := 3) (by decide +kernel) ?_
            exact hK93 3 (by decide) s17 _ (by exact (ev_l1 (ev_l1 (ev_l1 e6 (by decide) (by decide)) (by decide) (by decide)) (by decide) (by decide))) (by exact (ev_l1 (ev_l1 (ev_l1 e7 (by decide) (by decide)) (by decide) (by decide)) (by decide) (by decide))) (by exact (ev_l1 (ev_l1 (ev_lk_st1 e8 (by decide) rfl) (by decide) (by decide)) (by decide) (by decide))) (by exact (ev_l1 (ev_lk_st1 ev_lk_st1_self (by decide) rfl) (by decide) (by decide))) (by exact (ev_lk_st1 ev_lk_st1_self (by decide) rfl))
          · intro c170
            refine ev_r_iconst (pc := 88) (k := 1) (by decide +kernel) ?_
            refine ev_r_goto (pc := 89) (o := 4) (t := 93) (by decide +kernel) (by decide +kernel) ?_
            exact hK93 1 (by decide) s17 _ (by exact (ev_l1 (ev_l1 (ev_l1 e6 (by decide) (by decide)) (by decide) (by decide)) (by decide) (by decide))) (by exact (ev_l1 (ev_l1 (ev_l1 e7 (by decide) (by decide)) (by decide) (by decide)) (by decide) (by decide))) (by exact (ev_l1 (ev_l1 (ev_lk_st1 e8 (by decide) rfl) (by decide) (by decide)) (by decide) (by decide))) (by exact (ev_l1 (ev_lk_st1 ev_lk_st1_self (by decide) rfl) (by decide) (by decide))) (by exact (ev_lk_st1 ev_lk_st1_self (by decide) rfl))
theorem jlt_313_23 (d : Nat) (hd : 3 ≤ d + 1) (Q : Nat) (a0 : Int) (ha0 : ev_rng a0)   : ∀ q : Nat, ∀ (x4 : Int) (hx4 : ev_rng x4), ∀ (s9 : ev_St) (w5 : List (Nat × Value)), ev_lk w5 0 = some (.ref 621) → ev_lk w5 1 = some (.int (Int32.ofInt a0)) → ev_lk w5 2 = some (.int (Int32.ofInt x4)) → ev_w none (ev_Mof 313) d 23 w5 [] s9 (jl_313_23 Q a0  q x4 s9) ev_eU ev_PU := by
  intro q
  induction q with
  | zero =>
    intro x4 hx4 s9 w5 e6 e7 e8
    exact ev_w_none
  | succ q ih => exact jbt_313_23 d hd Q a0 ha0   _ ih
/-- MendBenchModel.writes(I)V -/
def jm_313 (Q : Nat) (a0 : Int) (S : ev_St) : Option ((Unit) × ev_St) := ev_ck (320 * a0) fun x1 => ev_b (ev_pI S 621 54 0) fun s2 => ev_b (ev_pI s2 621 59 0) fun s3 => ev_bd (jm_310 Q 2 x1 0 s3) fun _ s171 => jl_313_23 Q a0  Q x1 s171
theorem jt_313 (d : Nat) (hd : 3 ≤ d) (Q : Nat) (a0 : Int) (ha0 : ev_rng a0) (S : ev_St) (x : Unit) (S' : ev_St) (hJ : jm_313 Q a0 S = some (x, S')) : ev_Ref d 313 [.ref 621, .int (Int32.ofInt a0)] S (ev_eU x) S' (ev_PU x) := by
  obtain ⟨d, rfl⟩ : ∃ e, d = e + 1 := ⟨d - 1, by omega⟩
  refine ev_ref_of (P := ev_PU) (lv := [(0, .ref 621), (1, .int (Int32.ofInt a0))]) (by decide +kernel) (by (try simp only [ev_sum, ev_nv_cat]); first | done | rfl) (by (try simp only [lv_args, ev_nv_cat]); first | done | rfl) ?_ x S' hJ
  unfold jm_313
  refine ev_r_sipush (pc := 0) (k := 320) (by decide +kernel) (by decide +kernel) ?_
  refine ev_r_iload_n (pc := 3) (k := 1) (v := Int32.ofInt a0) (by decide +kernel) (by rfl) ?_
  refine ev_r_imul (pc := 4) (by decide +kernel) ?_
  intro x1 hx1
  refine ev_r_istore_n (pc := 5) (k := 2) (by decide +kernel) (by decide +kernel) rfl ?_
  refine ev_r_aload_n (pc := 6) (k := 0) (v := .ref 621) trivial (by decide +kernel) (by exact (ev_l1 (by rfl) (by decide) (by decide))) ?_
  refine ev_r_iconst (pc := 7) (k := 0) (by decide +kernel) ?_
  refine ev_r_putI (pc := 8) (y := 673) (ci := 13) (f := 54) (by decide) (by decide +kernel) (by decide +kernel) (by exact ev_ob_621) rfl rfl ?_
  intro s2
  refine ev_r_aload_n (pc := 11) (k := 0) (v := .ref 621) trivial (by decide +kernel) (by exact (ev_l1 (by rfl) (by decide) (by decide))) ?_
  refine ev_r_iconst (pc := 12) (k := 0) (by decide +kernel) ?_
  refine ev_r_putI (pc := 13) (y := 676) (ci := 13) (f := 59) (by decide) (by decide +kernel) (by decide +kernel) (by exact ev_ob_621) rfl rfl ?_
  intro s3
  refine ev_r_aload_n (pc := 16) (k := 0) (v := .ref 621) trivial (by decide +kernel) (by exact (ev_l1 (by rfl) (by decide) (by decide))) ?_
  refine ev_r_iconst (pc := 17) (k := 2) (by decide +kernel) ?_
  refine ev_r_iload_n (pc := 18) (k := 2) (v := Int32.ofInt x1) (by decide +kernel) (by exact ev_lk_st1_self) ?_
  refine ev_r_iconst (pc := 19) (k := 0) (by decide +kernel) ?_
  refine ev_r_virt (pc := 20) (y := 679) (mi := 310) (na := 3) (k := 621) (as := [.int (Int32.ofInt 2), .int (Int32.ofInt x1), .int (Int32.ofInt 0)]) (rest := []) (encc := ev_oU) (Q := ev_PU) (fun x S1 h => jt_310 d (by omega) Q 2 x1 0 (by decide) hx1 (by decide) s3 x S1 h) (by exact ev_ob_621) (by decide +kernel) (by decide +kernel) (by decide +kernel) (by decide +kernel) rfl (by (try simp only [ev_sum, ev_nv_cat]); first | done | rfl) ?_
  intro _ s171 _
  show ev_w _ _ _ _ _ [] _ _ _ _
  exact jlt_313_23 d hd Q a0 ha0   Q x1 hx1 s171 _ (by exact (ev_l1 (by rfl) (by decide) (by decide))) (by exact (ev_lk_st1 (by rfl) (by decide) rfl)) (by exact ev_lk_st1_self)
def jb_270_245 (Q : Nat) (a0 : Int)  (K245 : Int → ev_St → Option ((Unit) × ev_St)) (x23 : Int) (s28 : ev_St) : Option ((Unit) × ev_St) := if 26 ≤ x23 then (ev_bd (jm_268 Q a0 s28) fun _ s30 => ev_bd (jm_269 Q a0 s30) fun x32 s31 => ev_if ((0 : Int) ≤ a0 ∧ a0 < (ev_aln 639 : Int)) (ev_b (ev_pI s31 639 (Int.toNat a0) x32) fun s33 => ev_if ((0 : Int) ≤ a0 ∧ a0 < (ev_aln 639 : Int)) (ev_b (s33.1 639 (Int.toNat a0)) fun x34 => if x34 ≤ 0 then (some ((), s33)) else (ev_bd (jm_313 Q a0 s33) fun _ s36 => some ((), s36))))) else (ev_ck (26 * a0) fun x37 => ev_ck (x37 + x23) fun x38 => ev_ck (312 + x23) fun x39 => ev_if ((0 : Int) ≤ x39 ∧ x39 < (ev_aln 638 : Int)) (ev_b (s28.1 638 (Int.toNat x39)) fun x40 => ev_if ((0 : Int) ≤ x38 ∧ x38 < (ev_aln 638 : Int)) (ev_b (ev_pI s28 638 (Int.toNat x38) x40) fun s41 => ev_ck (x23 + 1) fun x42 => K245 x42 s41)))
def jl_270_245 (Q : Nat) (a0 : Int)  : Nat → Int → ev_St → Option ((Unit) × ev_St)
  | 0 => fun _ _ => none
  | q + 1 => jb_270_245 Q a0  (jl_270_245 Q a0  q)
theorem jbt_270_245 (d : Nat) (hd : 4 ≤ d + 1) (Q : Nat) (a0 : Int) (ha0 : ev_rng a0)   (K245 : Int → ev_St → Option ((Unit) × ev_St)) (hK245 : ∀ (x23 : Int) (hx23 : ev_rng x23), ∀ (s28 : ev_St) (w24 : List (Nat × Value)), ev_lk w24 0 = some (.ref 621) → ev_lk w24 1 = some (.int (Int32.ofInt a0)) → ev_lk w24 3 = some (.int (Int32.ofInt x23)) → ev_w none (ev_Mof 270) d 245 w24 [] s28 (K245 x23 s28) ev_eU ev_PU) : ∀ (x23 : Int) (hx23 : ev_rng x23), ∀ (s28 : ev_St) (w24 : List (Nat × Value)), ev_lk w24 0 = some (.ref 621) → ev_lk w24 1 = some (.int (Int32.ofInt a0)) → ev_lk w24 3 = some (.int (Int32.ofInt x23)) → ev_w none (ev_Mof 270) d 245 w24 [] s28 (jb_270_245 Q a0  K245 x23 s28) ev_eU ev_PU := by
  intro x23 hx23 s28 w24 e25 e26 e27
  unfold jb_270_245
  refine ev_r_iload_n (pc := 245) (k := 3) (v := Int32.ofInt x23) (by decide +kernel) (by exact e27) ?_
  refine ev_r_bipush (pc := 246) (k := 26) (by decide +kernel) (by decide +kernel) ?_
  refine ev_r_icmp (pc := 248) (q := .ge) (o := 30) (t := 278) (c := 26 ≤ x23) (by decide +kernel) (ev_k_ge hx23 (by decide)) (by decide +kernel) ?_ ?_
  · intro c29
    refine ev_r_aload_n (pc := 278) (k := 0) (v := .ref 621) trivial (by decide +kernel) (by exact e25) ?_
    refine ev_r_iload_n (pc := 279) (k := 1) (v := Int32.ofInt a0) (by decide +kernel) (by exact e26) ?_
    refine ev_r_virt (pc := 280) (y := 513) (mi := 268) (na := 1) (k := 621) (as := [.int (Int32.ofInt a0)]) (rest := []) (encc := ev_oU) (Q := ev_PU) (fun x S1 h => jt_268 d (by omega) Q a0 ha0 s28 x S1 h) (by exact ev_ob_621) (by decide +kernel) (by decide +kernel) (by decide +kernel) (by decide +kernel) rfl (by (try simp only [ev_sum, ev_nv_cat]); first | done | rfl) ?_
    intro _ s30 _
    show ev_w _ _ _ _ _ [] _ _ _ _
    refine ev_r_aload_n (pc := 283) (k := 0) (v := .ref 621) trivial (by decide +kernel) (by exact e25) ?_
    refine ev_r_getC (pc := 284) (y := 62) (ci := 13) (f := 20) (fin := 1) (k' := 639) (by decide +kernel) (by decide +kernel) (by exact ev_ob_621) rfl rfl ?_
    refine ev_r_iload_n (pc := 287) (k := 1) (v := Int32.ofInt a0) (by decide +kernel) (by exact e26) ?_
    refine ev_r_aload_n (pc := 288) (k := 0) (v := .ref 621) trivial (by decide +kernel) (by exact e25) ?_
    refine ev_r_iload_n (pc := 289) (k := 1) (v := Int32.ofInt a0) (by decide +kernel) (by exact e26) ?_
    refine ev_r_virt (pc := 290) (y := 516) (mi := 269) (na := 1) (k := 621) (as := [.int (Int32.ofInt a0)]) (rest := [.int (Int32.ofInt a0), .ref 639]) (encc := ev_oI) (Q := ev_rng) (fun x S1 h => jt_269 d (by omega) Q a0 ha0 s30 x S1 h) (by exact ev_ob_621) (by decide +kernel) (by decide +kernel) (by decide +kernel) (by decide +kernel) rfl (by (try simp only [ev_sum, ev_nv_cat]); first | done | rfl) ?_
    intro x32 s31 hx32
    show ev_w _ _ _ _ _ [.int (Int32.ofInt x32), .int (Int32.ofInt a0), .ref 639] _ _ _ _
    refine ev_r_iast (pc := 293) hx32 ha0 (by decide +kernel) (by exact ev_ab_639) ?_
    intro s33
    refine ev_r_aload_n (pc := 294) (k := 0) (v := .ref 621) trivial (by decide +kernel) (by exact e25) ?_
    refine ev_r_getC (pc := 295) (y := 62) (ci := 13) (f := 20) (fin := 1) (k' := 639) (by decide +kernel) (by decide +kernel) (by exact ev_ob_621) rfl rfl ?_
    refine ev_r_iload_n (pc := 298) (k := 1) (v := Int32.ofInt a0) (by decide +kernel) (by exact e26) ?_
    refine ev_r_iald (pc := 299) ha0 (by decide +kernel) (by exact ev_ab_639) ?_
    intro x34 hx34
    refine ev_r_if (pc := 300) (q := .le) (o := 8) (t := 308) (c := x34 ≤ 0) (by decide +kernel) (ev_k_le hx34 ev_rng0) (by decide +kernel) ?_ ?_
    · intro c35
      exact ev_r_return (pc := 308) (x := ()) trivial (by decide +kernel) (by decide +kernel) rfl
    · intro c35
      refine ev_r_aload_n (pc := 303) (k := 0) (v := .ref 621) trivial (by decide +kernel) (by exact e25) ?_
      refine ev_r_iload_n (pc := 304) (k := 1) (v := Int32.ofInt a0) (by decide +kernel) (by exact e26) ?_
      refine ev_r_virt (pc := 305) (y := 519) (mi := 313) (na := 1) (k := 621) (as := [.int (Int32.ofInt a0)]) (rest := []) (encc := ev_oU) (Q := ev_PU) (fun x S1 h => jt_313 d (by omega) Q a0 ha0 s33 x S1 h) (by exact ev_ob_621) (by decide +kernel) (by decide +kernel) (by decide +kernel) (by decide +kernel) rfl (by (try simp only [ev_sum, ev_nv_cat]); first | done | rfl) ?_
      intro _ s36 _
      show ev_w _ _ _ _ _ [] _ _ _ _
      exact ev_r_return (pc := 308) (x := ()) trivial (by decide +kernel) (by decide +kernel) rfl
  · intro c29
    refine ev_r_aload_n (pc := 251) (k := 0) (v := .ref 621) trivial (by decide +kernel) (by exact e25) ?_
    refine ev_r_getC (pc := 252) (y := 59) (ci := 13) (f := 19) (fin := 1) (k' := 638) (by decide +kernel) (by decide +kernel) (by exact ev_ob_621) rfl rfl ?_
    refine ev_r_bipush (pc := 255) (k := 26) (by decide +kernel) (by decide +kernel) ?_
    refine ev_r_iload_n (pc := 257) (k := 1) (v := Int32.ofInt a0) (by decide +kernel) (by exact e26) ?_
    refine ev_r_imul (pc := 258) (by decide +kernel) ?_
    intro x37 hx37
    refine ev_r_iload_n (pc := 259) (k := 3) (v := Int32.ofInt x23) (by decide +kernel) (by exact e27) ?_
    refine ev_r_iadd (pc := 260) (by decide +kernel) ?_
    intro x38 hx38
    refine ev_r_aload_n (pc := 261) (k := 0) (v := .ref 621) trivial (by decide +kernel) (by exact e25) ?_
    refine ev_r_getC (pc := 262) (y := 59) (ci := 13) (f := 19) (fin := 1) (k' := 638) (by decide +kernel) (by decide +kernel) (by exact ev_ob_621) rfl rfl ?_
    refine ev_r_sipush (pc := 265) (k := 312) (by decide +kernel) (by decide +kernel) ?_
    refine ev_r_iload_n (pc := 268) (k := 3) (v := Int32.ofInt x23) (by decide +kernel) (by exact e27) ?_
    refine ev_r_iadd (pc := 269) (by decide +kernel) ?_
    intro x39 hx39
    refine ev_r_iald (pc := 270) hx39 (by decide +kernel) (by exact ev_ab_638) ?_
    intro x40 hx40
    refine ev_r_iast (pc := 271) hx40 hx38 (by decide +kernel) (by exact ev_ab_638) ?_
    intro s41
    refine ev_r_iinc (pc := 272) (k := 3) (c := 1) (x := x23) (by decide +kernel) (by decide +kernel) (by exact e27) (fun _ => rfl) ?_
    intro x42 hx42
    refine ev_r_goto (pc := 275) (o := (-30)) (t := 245) (by decide +kernel) (by decide +kernel) ?_
    exact hK245 x42 hx42 s41 _ (by exact (ev_l1 e25 (by decide) (by decide))) (by exact (ev_l1 e26 (by decide) (by decide))) (by exact ev_lk_st1_self)
theorem jlt_270_245 (d : Nat) (hd : 4 ≤ d + 1) (Q : Nat) (a0 : Int) (ha0 : ev_rng a0)   : ∀ q : Nat, ∀ (x23 : Int) (hx23 : ev_rng x23), ∀ (s28 : ev_St) (w24 : List (Nat × Value)), ev_lk w24 0 = some (.ref 621) → ev_lk w24 1 = some (.int (Int32.ofInt a0)) → ev_lk w24 3 = some (.int (Int32.ofInt x23)) → ev_w none (ev_Mof 270) d 245 w24 [] s28 (jl_270_245 Q a0  q x23 s28) ev_eU ev_PU := by
  intro q
  induction q with
  | zero =>
    intro x23 hx23 s28 w24 e25 e26 e27
    exact ev_w_none
  | succ q ih => exact jbt_270_245 d hd Q a0 ha0   _ ih
def jb_270_211 (Q : Nat) (a0 : Int)  (K211 : Int → ev_St → Option ((Unit) × ev_St)) (x16 : Int) (s21 : ev_St) : Option ((Unit) × ev_St) := if 10 ≤ x16 then (jl_270_245 Q a0  Q 0 s21) else (ev_ck (10 * a0) fun x43 => ev_ck (x43 + x16) fun x44 => ev_ck (120 + x16) fun x45 => ev_if ((0 : Int) ≤ x45 ∧ x45 < (ev_aln 637 : Int)) (ev_b (s21.1 637 (Int.toNat x45)) fun x46 => ev_if ((0 : Int) ≤ x44 ∧ x44 < (ev_aln 637 : Int)) (ev_b (ev_pI s21 637 (Int.toNat x44) x46) fun s47 => ev_ck (x16 + 1) fun x48 => K211 x48 s47)))
def jl_270_211 (Q : Nat) (a0 : Int)  : Nat → Int → ev_St → Option ((Unit) × ev_St)
  | 0 => fun _ _ => none
  | q + 1 => jb_270_211 Q a0  (jl_270_211 Q a0  q)
theorem jbt_270_211 (d : Nat) (hd : 4 ≤ d + 1) (Q : Nat) (a0 : Int) (ha0 : ev_rng a0)   (K211 : Int → ev_St → Option ((Unit) × ev_St)) (hK211 : ∀ (x16 : Int) (hx16 : ev_rng x16), ∀ (s21 : ev_St) (w17 : List (Nat × Value)), ev_lk w17 0 = some (.ref 621) → ev_lk w17 1 = some (.int (Int32.ofInt a0)) → ev_lk w17 3 = some (.int (Int32.ofInt x16)) → ev_w none (ev_Mof 270) d 211 w17 [] s21 (K211 x16 s21) ev_eU ev_PU) : ∀ (x16 : Int) (hx16 : ev_rng x16), ∀ (s21 : ev_St) (w17 : List (Nat × Value)), ev_lk w17 0 = some (.ref 621) → ev_lk w17 1 = some (.int (Int32.ofInt a0)) → ev_lk w17 3 = some (.int (Int32.ofInt x16)) → ev_w none (ev_Mof 270) d 211 w17 [] s21 (jb_270_211 Q a0  K211 x16 s21) ev_eU ev_PU := by
  intro x16 hx16 s21 w17 e18 e19 e20
  unfold jb_270_211
  refine ev_r_iload_n (pc := 211) (k := 3) (v := Int32.ofInt x16) (by decide +kernel) (by exact e20) ?_
  refine ev_r_bipush (pc := 212) (k := 10) (by decide +kernel) (by decide +kernel) ?_
  refine ev_r_icmp (pc := 214) (q := .ge) (o := 29) (t := 243) (c := 10 ≤ x16) (by decide +kernel) (ev_k_ge hx16 (by decide)) (by decide +kernel) ?_ ?_
  · intro c22
    refine ev_r_iconst (pc := 243) (k := 0) (by decide +kernel) ?_
    refine ev_r_istore_n (pc := 244) (k := 3) (by decide +kernel) (by decide +kernel) rfl ?_
    exact jlt_270_245 d hd Q a0 ha0   Q 0 (by decide) s21 _ (by exact (ev_l1 e18 (by decide) (by decide))) (by exact (ev_l1 e19 (by decide) (by decide))) (by exact ev_lk_st1_self)
  · intro c22
    refine ev_r_aload_n (pc := 217) (k := 0) (v := .ref 621) trivial (by decide +kernel) (by exact e18) ?_
    refine ev_r_getC (pc := 218) (y := 56) (ci := 13) (f := 18) (fin := 1) (k' := 637) (by decide +kernel) (by decide +kernel) (by exact ev_ob_621) rfl rfl ?_
    refine ev_r_bipush (pc := 221) (k := 10) (by decide +kernel) (by decide +kernel) ?_
    refine ev_r_iload_n (pc := 223) (k := 1) (v := Int32.ofInt a0) (by decide +kernel) (by exact e19) ?_
    refine ev_r_imul (pc := 224) (by decide +kernel) ?_
    intro x43 hx43
    refine ev_r_iload_n (pc := 225) (k := 3) (v := Int32.ofInt x16) (by decide +kernel) (by exact e20) ?_
    refine ev_r_iadd (pc := 226) (by decide +kernel) ?_
    intro x44 hx44
    refine ev_r_aload_n (pc := 227) (k := 0) (v := .ref 621) trivial (by decide +kernel) (by exact e18) ?_
    refine ev_r_getC (pc := 228) (y := 56) (ci := 13) (f := 18) (fin := 1) (k' := 637) (by decide +kernel) (by decide +kernel) (by exact ev_ob_621) rfl rfl ?_
    refine ev_r_bipush (pc := 231) (k := 120) (by decide +kernel) (by decide +kernel) ?_
    refine ev_r_iload_n (pc := 233) (k := 3) (v := Int32.ofInt x16) (by decide +kernel) (by exact e20) ?_
    refine ev_r_iadd (pc := 234) (by decide +kernel) ?_
    intro x45 hx45
    refine ev_r_iald (pc := 235) hx45 (by decide +kernel) (by exact ev_ab_637) ?_
    intro x46 hx46
    refine ev_r_iast (pc := 236) hx46 hx44 (by decide +kernel) (by exact ev_ab_637) ?_
    intro s47
    refine ev_r_iinc (pc := 237) (k := 3) (c := 1) (x := x16) (by decide +kernel) (by decide +kernel) (by exact e20) (fun _ => rfl) ?_
    intro x48 hx48
    refine ev_r_goto (pc := 240) (o := (-29)) (t := 211) (by decide +kernel) (by decide +kernel) ?_
    exact hK211 x48 hx48 s47 _ (by exact (ev_l1 e18 (by decide) (by decide))) (by exact (ev_l1 e19 (by decide) (by decide))) (by exact ev_lk_st1_self)
theorem jlt_270_211 (d : Nat) (hd : 4 ≤ d + 1) (Q : Nat) (a0 : Int) (ha0 : ev_rng a0)   : ∀ q : Nat, ∀ (x16 : Int) (hx16 : ev_rng x16), ∀ (s21 : ev_St) (w17 : List (Nat × Value)), ev_lk w17 0 = some (.ref 621) → ev_lk w17 1 = some (.int (Int32.ofInt a0)) → ev_lk w17 3 = some (.int (Int32.ofInt x16)) → ev_w none (ev_Mof 270) d 211 w17 [] s21 (jl_270_211 Q a0  q x16 s21) ev_eU ev_PU := by
  intro q
  induction q with
  | zero =>
    intro x16 hx16 s21 w17 e18 e19 e20
    exact ev_w_none
  | succ q ih => exact jbt_270_211 d hd Q a0 ha0   _ ih
def jb_270_8 (Q : Nat) (a0 : Int)  (K8 : Int → Int → ev_St → Option ((Unit) × ev_St)) (x2 : Int) (x3 : Int) (s9 : ev_St) : Option ((Unit) × ev_St) := ev_if ((0 : Int) ≤ 12 ∧ 12 < (ev_aln 635 : Int)) (ev_b (s9.1 635 (Int.toNat 12)) fun x10 => if x10 ≤ x3 then (ev_if ((0 : Int) ≤ 12 ∧ 12 < (ev_aln 635 : Int)) (ev_b (s9.1 635 (Int.toNat 12)) fun x12 => ev_if ((0 : Int) ≤ a0 ∧ a0 < (ev_aln 635 : Int)) (ev_b (ev_pI s9 635 (Int.toNat a0) x12) fun s13 => ev_if ((0 : Int) ≤ 12 ∧ 12 < (ev_aln 636 : Int)) (ev_b (s13.1 636 (Int.toNat 12)) fun x14 => ev_if ((0 : Int) ≤ a0 ∧ a0 < (ev_aln 636 : Int)) (ev_b (ev_pI s13 636 (Int.toNat a0) x14) fun s15 => jl_270_211 Q a0  Q 0 s15))))) else (ev_bd (jm_232 Q  s9) fun x50 s49 => ev_ck (x50 + x3) fun x51 => ev_ck (x2 + x3) fun x52 => ev_if ((0 : Int) ≤ x51 ∧ x51 < (ev_aln 625 : Int)) (ev_b (s49.1 625 (Int.toNat x51)) fun x53 => ev_if ((0 : Int) ≤ x52 ∧ x52 < (ev_aln 625 : Int)) (ev_b (ev_pI s49 625 (Int.toNat x52) x53) fun s54 => ev_ck (x2 + x3) fun x55 => ev_if ((0 : Int) ≤ x51 ∧ x51 < (ev_aln 626 : Int)) (ev_b (s54.1 626 (Int.toNat x51)) fun x56 => ev_if ((0 : Int) ≤ x55 ∧ x55 < (ev_aln 626 : Int)) (ev_b (ev_pI s54 626 (Int.toNat x55) x56) fun s57 => ev_ck (x2 + x3) fun x58 => ev_if ((0 : Int) ≤ x51 ∧ x51 < (ev_aln 627 : Int)) (ev_b (s57.1 627 (Int.toNat x51)) fun x59 => ev_if ((0 : Int) ≤ x58 ∧ x58 < (ev_aln 627 : Int)) (ev_b (ev_pI s57 627 (Int.toNat x58) x59) fun s60 => ev_ck (x2 + x3) fun x61 => ev_if ((0 : Int) ≤ x51 ∧ x51 < (ev_aln 628 : Int)) (ev_b (s60.1 628 (Int.toNat x51)) fun x62 => ev_if ((0 : Int) ≤ x61 ∧ x61 < (ev_aln 628 : Int)) (ev_b (ev_pI s60 628 (Int.toNat x61) x62) fun s63 => ev_ck (x2 + x3) fun x64 => ev_if ((0 : Int) ≤ x51 ∧ x51 < (ev_aln 629 : Int)) (ev_b (s63.1 629 (Int.toNat x51)) fun x65 => ev_if ((0 : Int) ≤ x64 ∧ x64 < (ev_aln 629 : Int)) (ev_b (ev_pI s63 629 (Int.toNat x64) x65) fun s66 => ev_ck (x2 + x3) fun x67 => ev_if ((0 : Int) ≤ x51 ∧ x51 < (ev_aln 630 : Int)) (ev_b (s66.1 630 (Int.toNat x51)) fun x68 => ev_if ((0 : Int) ≤ x67 ∧ x67 < (ev_aln 630 : Int)) (ev_b (ev_pI s66 630 (Int.toNat x67) x68) fun s69 => ev_ck (x2 + x3) fun x70 => ev_if ((0 : Int) ≤ x51 ∧ x51 < (ev_aln 631 : Int)) (ev_b (s69.1 631 (Int.toNat x51)) fun x71 => ev_if ((0 : Int) ≤ x70 ∧ x70 < (ev_aln 631 : Int)) (ev_b (ev_pI s69 631 (Int.toNat x70) x71) fun s72 => ev_ck (x2 + x3) fun x73 => ev_if ((0 : Int) ≤ x51 ∧ x51 < (ev_aln 632 : Int)) (ev_b (s72.1 632 (Int.toNat x51)) fun x74 => ev_if ((0 : Int) ≤ x73 ∧ x73 < (ev_aln 632 : Int)) (ev_b (ev_pI s72 632 (Int.toNat x73) x74) fun s75 => ev_ck (x2 + x3) fun x76 => ev_if ((0 : Int) ≤ x51 ∧ x51 < (ev_aln 633 : Int)) (ev_b (s75.2.1 633 (Int.toNat x51)) fun y77 => ev_if ((0 : Int) ≤ x76 ∧ x76 < (ev_aln 633 : Int)) (ev_b (ev_pL s75 633 (Int.toNat x76) y77) fun s78 => ev_ck (x2 + x3) fun x79 => ev_if ((0 : Int) ≤ x51 ∧ x51 < (ev_aln 634 : Int)) (ev_b (s78.2.1 634 (Int.toNat x51)) fun y80 => ev_if ((0 : Int) ≤ x79 ∧ x79 < (ev_aln 634 : Int)) (ev_b (ev_pL s78 634 (Int.toNat x79) y80) fun s81 => ev_ck (x3 + 1) fun x82 => K8 x2 x82 s81))))))))))))))))))))))
def jl_270_8 (Q : Nat) (a0 : Int)  : Nat → Int → Int → ev_St → Option ((Unit) × ev_St)
  | 0 => fun _ _ _ => none
  | q + 1 => jb_270_8 Q a0  (jl_270_8 Q a0  q)
theorem jbt_270_8 (d : Nat) (hd : 4 ≤ d + 1) (Q : Nat) (a0 : Int) (ha0 : ev_rng a0)   (K8 : Int → Int → ev_St → Option ((Unit) × ev_St)) (hK8 : ∀ (x2 : Int) (hx2 : ev_rng x2), ∀ (x3 : Int) (hx3 : ev_rng x3), ∀ (s9 : ev_St) (w4 : List (Nat × Value)), ev_lk w4 0 = some (.ref 621) → ev_lk w4 1 = some (.int (Int32.ofInt a0)) → ev_lk w4 2 = some (.int (Int32.ofInt x2)) → ev_lk w4 3 = some (.int (Int32.ofInt x3)) → ev_w none (ev_Mof 270) d 8 w4 [] s9 (K8 x2 x3 s9) ev_eU ev_PU) : ∀ (x2 : Int) (hx2 : ev_rng x2), ∀ (x3 : Int) (hx3 : ev_rng x3), ∀ (s9 : ev_St) (w4 : List (Nat × Value)), ev_lk w4 0 = some (.ref 621) → ev_lk w4 1 = some (.int (Int32.ofInt a0)) → ev_lk w4 2 = some (.int (Int32.ofInt x2)) → ev_lk w4 3 = some (.int (Int32.ofInt x3)) → ev_w none (ev_Mof 270) d 8 w4 [] s9 (jb_270_8 Q a0  K8 x2 x3 s9) ev_eU ev_PU := by
  intro x2 hx2 x3 hx3 s9 w4 e5 e6 e7 e8
  unfold jb_270_8
  refine ev_r_iload_n (pc := 8) (k := 3) (v := Int32.ofInt x3) (by decide +kernel) (by exact e8) ?_
  refine ev_r_aload_n (pc := 9) (k := 0) (v := .ref 621) trivial (by decide +kernel) (by exact e5) ?_
  refine ev_r_getC (pc := 10) (y := 50) (ci := 13) (f := 16) (fin := 1) (k' := 635) (by decide +kernel) (by decide +kernel) (by exact ev_ob_621) rfl rfl ?_
  refine ev_r_bipush (pc := 13) (k := 12) (by decide +kernel) (by decide +kernel) ?_
  refine ev_r_iald (pc := 15) (by decide) (by decide +kernel) (by exact ev_ab_635) ?_
  intro x10 hx10
  refine ev_r_icmp (pc := 16) (q := .ge) (o := 167) (t := 183) (c := x10 ≤ x3) (by decide +kernel) (ev_k_ge hx3 hx10) (by decide +kernel) ?_ ?_
  · intro c11
    refine ev_r_aload_n (pc := 183) (k := 0) (v := .ref 621) trivial (by decide +kernel) (by exact e5) ?_
    refine ev_r_getC (pc := 184) (y := 50) (ci := 13) (f := 16) (fin := 1) (k' := 635) (by decide +kernel) (by decide +kernel) (by exact ev_ob_621) rfl rfl ?_
    refine ev_r_iload_n (pc := 187) (k := 1) (v := Int32.ofInt a0) (by decide +kernel) (by exact e6) ?_
    refine ev_r_aload_n (pc := 188) (k := 0) (v := .ref 621) trivial (by decide +kernel) (by exact e5) ?_
    refine ev_r_getC (pc := 189) (y := 50) (ci := 13) (f := 16) (fin := 1) (k' := 635) (by decide +kernel) (by decide +kernel) (by exact ev_ob_621) rfl rfl ?_
    refine ev_r_bipush (pc := 192) (k := 12) (by decide +kernel) (by decide +kernel) ?_
    refine ev_r_iald (pc := 194) (by decide) (by decide +kernel) (by exact ev_ab_635) ?_
    intro x12 hx12
    refine ev_r_iast (pc := 195) hx12 ha0 (by decide +kernel) (by exact ev_ab_635) ?_
    intro s13
    refine ev_r_aload_n (pc := 196) (k := 0) (v := .ref 621) trivial (by decide +kernel) (by exact e5) ?_
    refine ev_r_getC (pc := 197) (y := 53) (ci := 13) (f := 17) (fin := 1) (k' := 636) (by decide +kernel) (by decide +kernel) (by exact ev_ob_621) rfl rfl ?_
    refine ev_r_iload_n (pc := 200) (k := 1) (v := Int32.ofInt a0) (by decide +kernel) (by exact e6) ?_
    refine ev_r_aload_n (pc := 201) (k := 0) (v := .ref 621) trivial (by decide +kernel) (by exact e5) ?_
    refine ev_r_getC (pc := 202) (y := 53) (ci := 13) (f := 17) (fin := 1) (k' := 636) (by decide +kernel) (by decide +kernel) (by exact ev_ob_621) rfl rfl ?_
    refine ev_r_bipush (pc := 205) (k := 12) (by decide +kernel) (by decide +kernel) ?_
    refine ev_r_iald (pc := 207) (by decide) (by decide +kernel) (by exact ev_ab_636) ?_
    intro x14 hx14
    refine ev_r_iast (pc := 208) hx14 ha0 (by decide +kernel) (by exact ev_ab_636) ?_
    intro s15
    refine ev_r_iconst (pc := 209) (k := 0) (by decide +kernel) ?_
    refine ev_r_istore_n (pc := 210) (k := 3) (by decide +kernel) (by decide +kernel) rfl ?_
    exact jlt_270_211 d hd Q a0 ha0   Q 0 (by decide) s15 _ (by exact (ev_l1 e5 (by decide) (by decide))) (by exact (ev_l1 e6 (by decide) (by decide))) (by exact ev_lk_st1_self)
  · intro c11
    refine ev_r_aload_n (pc := 19) (k := 0) (v := .ref 621) trivial (by decide +kernel) (by exact e5) ?_
    refine ev_r_virt (pc := 20) (y := 356) (mi := 232) (na := 0) (k := 621) (as := []) (rest := []) (encc := ev_oI) (Q := ev_rng) (fun x S1 h => jt_232 d (by omega) Q   s9 x S1 h) (by exact ev_ob_621) (by decide +kernel) (by decide +kernel) (by decide +kernel) (by decide +kernel) rfl (by (try simp only [ev_sum, ev_nv_cat]); first | done | rfl) ?_
    intro x50 s49 hx50
    show ev_w _ _ _ _ _ [.int (Int32.ofInt x50)] _ _ _ _
    refine ev_r_iload_n (pc := 23) (k := 3) (v := Int32.ofInt x3) (by decide +kernel) (by exact e8) ?_
    refine ev_r_iadd (pc := 24) (by decide +kernel) ?_
    intro x51 hx51
    refine ev_r_istore (pc := 25) (k := 4) (by decide +kernel) (by decide +kernel) rfl ?_
    refine ev_r_aload_n (pc := 27) (k := 0) (v := .ref 621) trivial (by decide +kernel) (by exact (ev_l1 e5 (by decide) (by decide))) ?_
    refine ev_r_getC (pc := 28) (y := 19) (ci := 13) (f := 6) (fin := 1) (k' := 625) (by decide +kernel) (by decide +kernel) (by exact ev_ob_621) rfl rfl ?_
    refine ev_r_iload_n (pc := 31) (k := 2) (v := Int32.ofInt x2) (by decide +kernel) (by exact (ev_l1 e7 (by decide) (by decide))) ?_
    refine ev_r_iload_n (pc := 32) (k := 3) (v := Int32.ofInt x3) (by decide +kernel) (by exact (ev_lk_st1 e8 (by decide) rfl)) ?_
    refine ev_r_iadd (pc := 33) (by decide +kernel) ?_
    intro x52 hx52
    refine ev_r_aload_n (pc := 34) (k := 0) (v := .ref 621) trivial (by decide +kernel) (by exact (ev_l1 e5 (by decide) (by decide))) ?_
    refine ev_r_getC (pc := 35) (y := 19) (ci := 13) (f := 6) (fin := 1) (k' := 625) (by decide +kernel) (by decide +kernel) (by exact ev_ob_621) rfl rfl ?_
    refine ev_r_iload (pc := 38) (k := 4) (v := Int32.ofInt x51) (by decide +kernel) (by exact ev_lk_st1_self) ?_
    refine ev_r_iald (pc := 40) hx51 (by decide +kernel) (by exact ev_ab_625) ?_
    intro x53 hx53
    refine ev_r_iast (pc := 41) hx53 hx52 (by decide +kernel) (by exact ev_ab_625) ?_
    intro s54
    refine ev_r_aload_n (pc := 42) (k := 0) (v := .ref 621) trivial (by decide +kernel) (by exact (ev_l1 e5 (by decide) (by decide))) ?_
    refine ev_r_getC (pc := 43) (y := 22) (ci := 13) (f := 7) (fin := 1) (k' := 626) (by decide +kernel) (by decide +kernel) (by exact ev_ob_621) rfl rfl ?_
    refine ev_r_iload_n (pc := 46) (k := 2) (v := Int32.ofInt x2) (by decide +kernel) (by exact (ev_l1 e7 (by decide) (by decide))) ?_
    refine ev_r_iload_n (pc := 47) (k := 3) (v := Int32.ofInt x3) (by decide +kernel) (by exact (ev_lk_st1 e8 (by decide) rfl)) ?_
    refine ev_r_iadd (pc := 48) (by decide +kernel) ?_
    intro x55 hx55
    refine ev_r_aload_n (pc := 49) (k := 0) (v := .ref 621) trivial (by decide +kernel) (by exact (ev_l1 e5 (by decide) (by decide))) ?_
    refine ev_r_getC (pc := 50) (y := 22) (ci := 13) (f := 7) (fin := 1) (k' := 626) (by decide +kernel) (by decide +kernel) (by exact ev_ob_621) rfl rfl ?_
    refine ev_r_iload (pc := 53) (k := 4) (v := Int32.ofInt x51) (by decide +kernel) (by exact ev_lk_st1_self) ?_
    refine ev_r_iald (pc := 55) hx51 (by decide +kernel) (by exact ev_ab_626) ?_
    intro x56 hx56
    refine ev_r_iast (pc := 56) hx56 hx55 (by decide +kernel) (by exact ev_ab_626) ?_
    intro s57
    refine ev_r_aload_n (pc := 57) (k := 0) (v := .ref 621) trivial (by decide +kernel) (by exact (ev_l1 e5 (by decide) (by decide))) ?_
    refine ev_r_getC (pc := 58) (y := 25) (ci := 13) (f := 8) (fin := 1) (k' := 627) (by decide +kernel) (by decide +kernel) (by exact ev_ob_621) rfl rfl ?_
    refine ev_r_iload_n (pc := 61) (k := 2) (v := Int32.ofInt x2) (by decide +kernel) (by exact (ev_l1 e7 (by decide) (by decide))) ?_
    refine ev_r_iload_n (pc := 62) (k := 3) (v := Int32.ofInt x3) (by decide +kernel) (by exact (ev_lk_st1 e8 (by decide) rfl)) ?_
    refine ev_r_iadd (pc := 63) (by decide +kernel) ?_
    intro x58 hx58
    refine ev_r_aload_n (pc := 64) (k := 0) (v := .ref 621) trivial (by decide +kernel) (by exact (ev_l1 e5 (by decide) (by decide))) ?_
    refine ev_r_getC (pc := 65) (y := 25) (ci := 13) (f := 8) (fin := 1) (k' := 627) (by decide +kernel) (by decide +kernel) (by exact ev_ob_621) rfl rfl ?_
    refine ev_r_iload (pc := 68) (k := 4) (v := Int32.ofInt x51) (by decide +kernel) (by exact ev_lk_st1_self) ?_
    refine ev_r_iald (pc := 70) hx51 (by decide +kernel) (by exact ev_ab_627) ?_
    intro x59 hx59
    refine ev_r_iast (pc := 71) hx59 hx58 (by decide +kernel) (by exact ev_ab_627) ?_
    intro s60
    refine ev_r_aload_n (pc := 72) (k := 0) (v := .ref 621) trivial (by decide +kernel) (by exact (ev_l1 e5 (by decide) (by decide))) ?_
    refine ev_r_getC (pc := 73) (y := 28) (ci := 13) (f := 9) (fin := 1) (k' := 628) (by decide +kernel) (by decide +kernel) (by exact ev_ob_621) rfl rfl ?_
    refine ev_r_iload_n (pc := 76) (k := 2) (v := Int32.ofInt x2) (by decide +kernel) (by exact (ev_l1 e7 (by decide) (by decide))) ?_
    refine ev_r_iload_n (pc := 77) (k := 3) (v := Int32.ofInt x3) (by decide +kernel) (by exact (ev_lk_st1 e8 (by decide) rfl)) ?_
    refine ev_r_iadd (pc := 78) (by decide +kernel) ?_
    intro x61 hx61
    refine ev_r_aload_n (pc := 79) (k := 0) (v := .ref 621) trivial (by decide +kernel) (by exact (ev_l1 e5 (by decide) (by decide))) ?_
    refine ev_r_getC (pc := 80) (y := 28) (ci := 13) (f := 9) (fin := 1) (k' := 628) (by decide +kernel) (by decide +kernel) (by exact ev_ob_621) rfl rfl ?_
    refine ev_r_iload (pc := 83) (k := 4) (v := Int32.ofInt x51) (by decide +kernel) (by exact ev_lk_st1_self) ?_
    refine ev_r_iald (pc := 85) hx51 (by decide +kernel) (by exact ev_ab_628) ?_
    intro x62 hx62
    refine ev_r_iast (pc := 86) hx62 hx61 (by decide +kernel) (by exact ev_ab_628) ?_
    intro s63
    refine ev_r_aload_n (pc := 87) (k := 0) (v := .ref 621) trivial (by decide +kernel) (by exact (ev_l1 e5 (by decide) (by decide))) ?_
    refine ev_r_getC (pc := 88) (y := 31) (ci := 13) (f := 10) (fin := 1) (k' := 629) (by decide +kernel) (by decide +kernel) (by exact ev_ob_621) rfl rfl ?_
    refine ev_r_iload_n (pc := 91) (k := 2) (v := Int32.ofInt x2) (by decide +kernel) (by exact (ev_l1 e7 (by decide) (by decide))) ?_
    refine ev_r_iload_n (pc := 92) (k := 3) (v := Int32.ofInt x3) (by decide +kernel) (by exact (ev_lk_st1 e8 (by decide) rfl)) ?_
    refine ev_r_iadd (pc := 93) (by decide +kernel) ?_
    intro x64 hx64
    refine ev_r_aload_n (pc := 94) (k := 0) (v := .ref 621) trivial (by decide +kernel) (by exact (ev_l1 e5 (by decide) (by decide))) ?_
    refine ev_r_getC (pc := 95) (y := 31) (ci := 13) (f := 10) (fin := 1) (k' := 629) (by decide +kernel) (by decide +kernel) (by exact ev_ob_621) rfl rfl ?_
    refine ev_r_iload (pc := 98) (k := 4) (v := Int32.ofInt x51) (by decide +kernel) (by exact ev_lk_st1_self) ?_
    refine ev_r_iald (pc := 100) hx51 (by decide +kernel) (by exact ev_ab_629) ?_
    intro x65 hx65
    refine ev_r_iast (pc := 101) hx65 hx64 (by decide +kernel) (by exact ev_ab_629) ?_
    intro s66
    refine ev_r_aload_n (pc := 102) (k := 0) (v := .ref 621) trivial (by decide +kernel) (by exact (ev_l1 e5 (by decide) (by decide))) ?_
    refine ev_r_getC (pc := 103) (y := 34) (ci := 13) (f := 11) (fin := 1) (k' := 630) (by decide +kernel) (by decide +kernel) (by exact ev_ob_621) rfl rfl ?_
    refine ev_r_iload_n (pc := 106) (k := 2) (v := Int32.ofInt x2) (by decide +kernel) (by exact (ev_l1 e7 (by decide) (by decide))) ?_
    refine ev_r_iload_n (pc := 107) (k := 3) (v := Int32.ofInt x3) (by decide +kernel) (by exact (ev_lk_st1 e8 (by decide) rfl)) ?_
    refine ev_r_iadd (pc := 108) (by decide +kernel) ?_
    intro x67 hx67
    refine ev_r_aload_n (pc := 109) (k := 0) (v := .ref 621) trivial (by decide +kernel) (by exact (ev_l1 e5 (by decide) (by decide))) ?_
    refine ev_r_getC (pc := 110) (y := 34) (ci := 13) (f := 11) (fin := 1) (k' := 630) (by decide +kernel) (by decide +kernel) (by exact ev_ob_621) rfl rfl ?_
    refine ev_r_iload (pc := 113) (k := 4) (v := Int32.ofInt x51) (by decide +kernel) (by exact ev_lk_st1_self) ?_
    refine ev_r_iald (pc := 115) hx51 (by decide +kernel) (by exact ev_ab_630) ?_
    intro x68 hx68
    refine ev_r_iast (pc := 116) hx68 hx67 (by decide +kernel) (by exact ev_ab_630) ?_
    intro s69
    refine ev_r_aload_n (pc := 117) (k := 0) (v := .ref 621) trivial (by decide +kernel) (by exact (ev_l1 e5 (by decide) (by decide))) ?_
    refine ev_r_getC (pc := 118) (y := 37) (ci := 13) (f := 12) (fin := 1) (k' := 631) (by decide +kernel) (by decide +kernel) (by exact ev_ob_621) rfl rfl ?_
    refine ev_r_iload_n (pc := 121) (k := 2) (v := Int32.ofInt x2) (by decide +kernel) (by exact (ev_l1 e7 (by decide) (by decide))) ?_
    refine ev_r_iload_n (pc := 122) (k := 3) (v := Int32.ofInt x3) (by decide +kernel) (by exact (ev_lk_st1 e8 (by decide) rfl)) ?_
    refine ev_r_iadd (pc := 123) (by decide +kernel) ?_
    intro x70 hx70
    refine ev_r_aload_n (pc := 124) (k := 0) (v := .ref 621) trivial (by decide +kernel) (by exact (ev_l1 e5 (by decide) (by decide))) ?_
    refine ev_r_getC (pc := 125) (y := 37) (ci := 13) (f := 12) (fin := 1) (k' := 631) (by decide +kernel) (by decide +kernel) (by exact ev_ob_621) rfl rfl ?_
    refine ev_r_iload (pc := 128) (k := 4) (v := Int32.ofInt x51) (by decide +kernel) (by exact ev_lk_st1_self) ?_
    refine ev_r_iald (pc := 130) hx51 (by decide +kernel) (by exact ev_ab_631) ?_
    intro x71 hx71
    refine ev_r_iast (pc := 131) hx71 hx70 (by decide +kernel) (by exact ev_ab_631) ?_
    intro s72
    refine ev_r_aload_n (pc := 132) (k := 0) (v := .ref 621) trivial (by decide +kernel) (by exact (ev_l1 e5 (by decide) (by decide))) ?_
    refine ev_r_getC (pc := 133) (y := 40) (ci := 13) (f := 13) (fin := 1) (k' := 632) (by decide +kernel) (by decide +kernel) (by exact ev_ob_621) rfl rfl ?_
    refine ev_r_iload_n (pc := 136) (k := 2) (v := Int32.ofInt x2) (by decide +kernel) (by exact (ev_l1 e7 (by decide) (by decide))) ?_
    refine ev_r_iload_n (pc := 137) (k := 3) (v := Int32.ofInt x3) (by decide +kernel) (by exact (ev_lk_st1 e8 (by decide) rfl)) ?_
    refine ev_r_iadd (pc := 138) (by decide +kernel) ?_
    intro x73 hx73
    refine ev_r_aload_n (pc := 139) (k := 0) (v := .ref 621) trivial (by decide +kernel) (by exact (ev_l1 e5 (by decide) (by decide))) ?_
    refine ev_r_getC (pc := 140) (y := 40) (ci := 13) (f := 13) (fin := 1) (k' := 632) (by decide +kernel) (by decide +kernel) (by exact ev_ob_621) rfl rfl ?_
    refine ev_r_iload (pc := 143) (k := 4) (v := Int32.ofInt x51) (by decide +kernel) (by exact ev_lk_st1_self) ?_
    refine ev_r_iald (pc := 145) hx51 (by decide +kernel) (by exact ev_ab_632) ?_
    intro x74 hx74
    refine ev_r_iast (pc := 146) hx74 hx73 (by decide +kernel) (by exact ev_ab_632) ?_
    intro s75
    refine ev_r_aload_n (pc := 147) (k := 0) (v := .ref 621) trivial (by decide +kernel) (by exact (ev_l1 e5 (by decide) (by decide))) ?_
    refine ev_r_getC (pc := 148) (y := 43) (ci := 13) (f := 14) (fin := 1) (k' := 633) (by decide +kernel) (by decide +kernel) (by exact ev_ob_621) rfl rfl ?_
    refine ev_r_iload_n (pc := 151) (k := 2) (v := Int32.ofInt x2) (by decide +kernel) (by exact (ev_l1 e7 (by decide) (by decide))) ?_
    refine ev_r_iload_n (pc := 152) (k := 3) (v := Int32.ofInt x3) (by decide +kernel) (by exact (ev_lk_st1 e8 (by decide) rfl)) ?_
    refine ev_r_iadd (pc := 153) (by decide +kernel) ?_
    intro x76 hx76
    refine ev_r_aload_n (pc := 154) (k := 0) (v := .ref 621) trivial (by decide +kernel) (by exact (ev_l1 e5 (by decide) (by decide))) ?_
    refine ev_r_getC (pc := 155) (y := 43) (ci := 13) (f := 14) (fin := 1) (k' := 633) (by decide +kernel) (by decide +kernel) (by exact ev_ob_621) rfl rfl ?_
    refine ev_r_iload (pc := 158) (k := 4) (v := Int32.ofInt x51) (by decide +kernel) (by exact ev_lk_st1_self) ?_
    refine ev_r_lald (pc := 160) hx51 (by decide +kernel) (by exact ev_ab_633) ?_
    intro y77
    refine ev_r_last (pc := 161) hx76 (by decide +kernel) (by exact ev_ab_633) ?_
    intro s78
    refine ev_r_aload_n (pc := 162) (k := 0) (v := .ref 621) trivial (by decide +kernel) (by exact (ev_l1 e5 (by decide) (by decide))) ?_
    refine ev_r_getC (pc := 163) (y := 47) (ci := 13) (f := 15) (fin := 1) (k' := 634) (by decide +kernel) (by decide +kernel) (by exact ev_ob_621) rfl rfl ?_
    refine ev_r_iload_n (pc := 166) (k := 2) (v := Int32.ofInt x2) (by decide +kernel) (by exact (ev_l1 e7 (by decide) (by decide))) ?_
    refine ev_r_iload_n (pc := 167) (k := 3) (v := Int32.ofInt x3) (by decide +kernel) (by exact (ev_lk_st1 e8 (by decide) rfl)) ?_
    refine ev_r_iadd (pc := 168) (by decide +kernel) ?_
    intro x79 hx79
    refine ev_r_aload_n (pc := 169) (k := 0) (v := .ref 621) trivial (by decide +kernel) (by exact (ev_l1 e5 (by decide) (by decide))) ?_
    refine ev_r_getC (pc := 170) (y := 47) (ci := 13) (f := 15) (fin := 1) (k' := 634) (by decide +kernel) (by decide +kernel) (by exact ev_ob_621) rfl rfl ?_
    refine ev_r_iload (pc := 173) (k := 4) (v := Int32.ofInt x51) (by decide +kernel) (by exact ev_lk_st1_self) ?_
    refine ev_r_lald (pc := 175) hx51 (by decide +kernel) (by exact ev_ab_634) ?_
    intro y80
    refine ev_r_last (pc := 176) hx79 (by decide +kernel) (by exact ev_ab_634) ?_
    intro s81
    refine ev_r_iinc (pc := 177) (k := 3) (c := 1) (x := x3) (by decide +kernel) (by decide +kernel) (by exact (ev_lk_st1 e8 (by decide) rfl)) (fun _ => rfl) ?_
    intro x82 hx82
    refine ev_r_goto (pc := 180) (o := (-172)) (t := 8) (by decide +kernel) (by decide +kernel) ?_
    exact hK8 x2 hx2 x82 hx82 s81 _ (by exact (ev_l1 (ev_l1 e5 (by decide) (by decide)) (by decide) (by decide))) (by exact (ev_l1 (ev_l1 e6 (by decide) (by decide)) (by decide) (by decide))) (by exact (ev_lk_st1 (ev_l1 e7 (by decide) (by decide)) (by decide) rfl)) (by exact ev_lk_st1_self)
theorem jlt_270_8 (d : Nat) (hd : 4 ≤ d + 1) (Q : Nat) (a0 : Int) (ha0 : ev_rng a0)   : ∀ q : Nat, ∀ (x2 : Int) (hx2 : ev_rng x2), ∀ (x3 : Int) (hx3 : ev_rng x3), ∀ (s9 : ev_St) (w4 : List (Nat × Value)), ev_lk w4 0 = some (.ref 621) → ev_lk w4 1 = some (.int (Int32.ofInt a0)) → ev_lk w4 2 = some (.int (Int32.ofInt x2)) → ev_lk w4 3 = some (.int (Int32.ofInt x3)) → ev_w none (ev_Mof 270) d 8 w4 [] s9 (jl_270_8 Q a0  q x2 x3 s9) ev_eU ev_PU := by
  intro q
  induction q with
  | zero =>
    intro x2 hx2 x3 hx3 s9 w4 e5 e6 e7 e8
    exact ev_w_none
  | succ q ih => exact jbt_270_8 d hd Q a0 ha0   _ ih
/-- MendBenchModel.keeps(I)V -/
def jm_270 (Q : Nat) (a0 : Int) (S : ev_St) : Option ((Unit) × ev_St) := ev_ck (320 * a0) fun x1 => jl_270_8 Q a0  Q x1 0 S
theorem jt_270 (d : Nat) (hd : 4 ≤ d) (Q : Nat) (a0 : Int) (ha0 : ev_rng a0) (S : ev_St) (x : Unit) (S' : ev_St) (hJ : jm_270 Q a0 S = some (x, S')) : ev_Ref d 270 [.ref 621, .int (Int32.ofInt a0)] S (ev_eU x) S' (ev_PU x) := by
  obtain ⟨d, rfl⟩ : ∃ e, d = e + 1 := ⟨d - 1, by omega⟩
  refine ev_ref_of (P := ev_PU) (lv := [(0, .ref 621), (1, .int (Int32.ofInt a0))]) (by decide +kernel) (by (try simp only [ev_sum, ev_nv_cat]); first | done | rfl) (by (try simp only [lv_args, ev_nv_cat]); first | done | rfl) ?_ x S' hJ
  unfold jm_270
  refine ev_r_sipush (pc := 0) (k := 320) (by decide +kernel) (by decide +kernel) ?_
  refine ev_r_iload_n (pc := 3) (k := 1) (v := Int32.ofInt a0) (by decide +kernel) (by rfl) ?_
  refine ev_r_imul (pc := 4) (by decide +kernel) ?_
  intro x1 hx1
  refine ev_r_istore_n (pc := 5) (k := 2) (by decide +kernel) (by decide +kernel) rfl ?_
  refine ev_r_iconst (pc := 6) (k := 0) (by decide +kernel) ?_
  refine ev_r_istore_n (pc := 7) (k := 3) (by decide +kernel) (by decide +kernel) rfl ?_
  exact jlt_270_8 d hd Q a0 ha0   Q x1 hx1 0 (by decide) S _ (by exact (ev_l1 (ev_l1 (by rfl) (by decide) (by decide)) (by decide) (by decide))) (by exact (ev_l1 (ev_lk_st1 (by rfl) (by decide) rfl) (by decide) (by decide))) (by exact (ev_lk_st1 ev_lk_st1_self (by decide) rfl)) (by exact ev_lk_st1_self)
def jb_271_34 (Q : Nat) (a0 : Int) (x7 : Int)  (K34 : Int → ev_St → Option ((Int) × ev_St)) (x9 : Int) (s15 : ev_St) : Option ((Int) × ev_St) := ev_b (s15.1 621 1) fun x16 => if x16 ≤ x9 then (ev_ck (a0 - 97) fun x18 => ev_b (s15.1 621 1) fun x19 => ev_if ((0 : Int) ≤ x18 ∧ x18 < (ev_aln 623 : Int)) (ev_b (ev_pI s15 623 (Int.toNat x18) x19) fun s20 => ev_b (ev_pI s20 621 1 0) fun s21 => some (x7, s21))) else (ev_ck (a0 - 97) fun x22 => ev_ck (120 * x22) fun x23 => ev_ck (x23 + x9) fun x24 => ev_if ((0 : Int) ≤ x9 ∧ x9 < (ev_aln 622 : Int)) (ev_b (s15.1 622 (Int.toNat x9)) fun x25 => ev_if ((0 : Int) ≤ x24 ∧ x24 < (ev_aln 624 : Int)) (ev_b (ev_pI s15 624 (Int.toNat x24) x25) fun s26 => ev_ck (x9 + 1) fun x27 => K34 x27 s26)))
def jl_271_34 (Q : Nat) (a0 : Int) (x7 : Int)  : Nat → Int → ev_St → Option ((Int) × ev_St)
  | 0 => fun _ _ => none
  | q + 1 => jb_271_34 Q a0 x7  (jl_271_34 Q a0 x7  q)
theorem jbt_271_34 (d : Nat) (hd : 9 ≤ d + 1) (Q : Nat) (a0 : Int) (x7 : Int) (ha0 : ev_rng a0) (hx7 : ev_rng x7)   (K34 : Int → ev_St → Option ((Int) × ev_St)) (hK34 : ∀ (x9 : Int) (hx9 : ev_rng x9), ∀ (s15 : ev_St) (w10 : List (Nat × Value)), ev_lk w10 0 = some (.ref 621) → ev_lk w10 1 = some (.int (Int32.ofInt a0)) → ev_lk w10 2 = some (.int (Int32.ofInt x7)) → ev_lk w10 3 = some (.int (Int32.ofInt x9)) → ev_w none (ev_Mof 271) d 34 w10 [] s15 (K34 x9 s15) ev_eI ev_rng) : ∀ (x9 : Int) (hx9 : ev_rng x9), ∀ (s15 : ev_St) (w10 : List (Nat × Value)), ev_lk w10 0 = some (.ref 621) → ev_lk w10 1 = some (.int (Int32.ofInt a0)) → ev_lk w10 2 = some (.int (Int32.ofInt x7)) → ev_lk w10 3 = some (.int (Int32.ofInt x9)) → ev_w none (ev_Mof 271) d 34 w10 [] s15 (jb_271_34 Q a0 x7  K34 x9 s15) ev_eI ev_rng := by
  intro x9 hx9 s15 w10 e11 e12 e13 e14
  unfold jb_271_34
  refine ev_r_iload_n (pc := 34) (k := 3) (v := Int32.ofInt x9) (by decide +kernel) (by exact e14) ?_
  refine ev_r_aload_n (pc := 35) (k := 0) (v := .ref 621) trivial (by decide +kernel) (by exact e11) ?_
  refine ev_r_getI (pc := 36) (y := 346) (ci := 13) (f := 1) (fin := 0) (by decide +kernel) (by decide +kernel) (by exact ev_ob_621) rfl ?_
  intro x16 hx16
  refine ev_r_icmp (pc := 39) (q := .ge) (o := 29) (t := 68) (c := x16 ≤ x9) (by decide +kernel) (ev_k_ge hx9 hx16) (by decide +kernel) ?_ ?_
  · intro c17
    refine ev_r_aload_n (pc := 68) (k := 0) (v := .ref 621) trivial (by decide +kernel) (by exact e11) ?_
    refine ev_r_getC (pc := 69) (y := 13) (ci := 13) (f := 3) (fin := 1) (k' := 623) (by decide +kernel) (by decide +kernel) (by exact ev_ob_621) rfl rfl ?_
    refine ev_r_iload_n (pc := 72) (k := 1) (v := Int32.ofInt a0) (by decide +kernel) (by exact e12) ?_
    refine ev_r_bipush (pc := 73) (k := 97) (by decide +kernel) (by decide +kernel) ?_
    refine ev_r_isub (pc := 75) (by decide +kernel) ?_
    intro x18 hx18
    refine ev_r_aload_n (pc := 76) (k := 0) (v := .ref 621) trivial (by decide +kernel) (by exact e11) ?_
    refine ev_r_getI (pc := 77) (y := 346) (ci := 13) (f := 1) (fin := 0) (by decide +kernel) (by decide +kernel) (by exact ev_ob_621) rfl ?_
    intro x19 hx19
    refine ev_r_iast (pc := 80) hx19 hx18 (by decide +kernel) (by exact ev_ab_623) ?_
    intro s20
    refine ev_r_aload_n (pc := 81) (k := 0) (v := .ref 621) trivial (by decide +kernel) (by exact e11) ?_
    refine ev_r_iconst (pc := 82) (k := 0) (by decide +kernel) ?_
    refine ev_r_putI (pc := 83) (y := 346) (ci := 13) (f := 1) (by decide) (by decide +kernel) (by decide +kernel) (by exact ev_ob_621) rfl rfl ?_
    intro s21
    refine ev_r_iload_n (pc := 86) (k := 2) (v := Int32.ofInt x7) (by decide +kernel) (by exact e13) ?_
    exact ev_r_ireturn (pc := 87) (x := x7) (v := Int32.ofInt x7) (ty := .int) hx7 (by decide +kernel) (by decide +kernel) rfl rfl
  · intro c17
    refine ev_r_aload_n (pc := 42) (k := 0) (v := .ref 621) trivial (by decide +kernel) (by exact e11) ?_
    refine ev_r_getC (pc := 43) (y := 16) (ci := 13) (f := 4) (fin := 1) (k' := 624) (by decide +kernel) (by decide +kernel) (by exact ev_ob_621) rfl rfl ?_
    refine ev_r_bipush (pc := 46) (k := 120) (by decide +kernel) (by decide +kernel) ?_
    refine ev_r_iload_n (pc := 48) (k := 1) (v := Int32.ofInt a0) (by decide +kernel) (by exact e12) ?_
    refine ev_r_bipush (pc := 49) (k := 97) (by decide +kernel) (by decide +kernel) ?_
    refine ev_r_isub (pc := 51) (by decide +kernel) ?_
    intro x22 hx22
    refine ev_r_imul (pc := 52) (by decide +kernel) ?_
    intro x23 hx23
    refine ev_r_iload_n (pc := 53) (k := 3) (v := Int32.ofInt x9) (by decide +kernel) (by exact e14) ?_
    refine ev_r_iadd (pc := 54) (by decide +kernel) ?_
    intro x24 hx24
    refine ev_r_aload_n (pc := 55) (k := 0) (v := .ref 621) trivial (by decide +kernel) (by exact e11) ?_
    refine ev_r_getC (pc := 56) (y := 7) (ci := 13) (f := 2) (fin := 1) (k' := 622) (by decide +kernel) (by decide +kernel) (by exact ev_ob_621) rfl rfl ?_
    refine ev_r_iload_n (pc := 59) (k := 3) (v := Int32.ofInt x9) (by decide +kernel) (by exact e14) ?_
    refine ev_r_iald (pc := 60) hx9 (by decide +kernel) (by exact ev_ab_622) ?_
    intro x25 hx25
    refine ev_r_iast (pc := 61) hx25 hx24 (by decide +kernel) (by exact ev_ab_624) ?_
    intro s26
    refine ev_r_iinc (pc := 62) (k := 3) (c := 1) (x := x9) (by decide +kernel) (by decide +kernel) (by exact e14) (fun _ => rfl) ?_
    intro x27 hx27
    refine ev_r_goto (pc := 65) (o := (-31)) (t := 34) (by decide +kernel) (by decide +kernel) ?_
    exact hK34 x27 hx27 s26 _ (by exact (ev_l1 e11 (by decide) (by decide))) (by exact (ev_l1 e12 (by decide) (by decide))) (by exact (ev_lk_st1 e13 (by decide) rfl)) (by exact ev_lk_st1_self)
theorem jlt_271_34 (d : Nat) (hd : 9 ≤ d + 1) (Q : Nat) (a0 : Int) (x7 : Int) (ha0 : ev_rng a0) (hx7 : ev_rng x7)   : ∀ q : Nat, ∀ (x9 : Int) (hx9 : ev_rng x9), ∀ (s15 : ev_St) (w10 : List (Nat × Value)), ev_lk w10 0 = some (.ref 621) → ev_lk w10 1 = some (.int (Int32.ofInt a0)) → ev_lk w10 2 = some (.int (Int32.ofInt x7)) → ev_lk w10 3 = some (.int (Int32.ofInt x9)) → ev_w none (ev_Mof 271) d 34 w10 [] s15 (jl_271_34 Q a0 x7  q x9 s15) ev_eI ev_rng := by
  intro q
  induction q with
  | zero =>
    intro x9 hx9 s15 w10 e11 e12 e13 e14
    exact ev_w_none
  | succ q ih => exact jbt_271_34 d hd Q a0 x7 ha0 hx7   _ ih
/-- MendBenchModel.part(I)I -/
def jm_271 (Q : Nat) (a0 : Int) (S : ev_St) : Option ((Int) × ev_St) := ev_b (ev_pI S 621 0 0) fun s1 => ev_bd (jm_224 Q a0 s1) fun x3 s2 => if x3 ≠ 0 then (ev_ck (a0 - 97) fun x5 => ev_bd (jm_265 Q x5 s2) fun x7 s6 => if x7 = (-1) then (some (x7, s6)) else (jl_271_34 Q a0 x7  Q 0 s6)) else (ev_bd (jm_221 Q 1 s2) fun x29 s28 => some (x29, s28))
theorem jt_271 (d : Nat) (hd : 9 ≤ d) (Q : Nat) (a0 : Int) (ha0 : ev_rng a0) (S : ev_St) (x : Int) (S' : ev_St) (hJ : jm_271 Q a0 S = some (x, S')) : ev_Ref d 271 [.ref 621, .int (Int32.ofInt a0)] S (ev_eI x) S' (ev_rng x) := by
  obtain ⟨d, rfl⟩ : ∃ e, d = e + 1 := ⟨d - 1, by omega⟩
  refine ev_ref_of (P := ev_rng) (lv := [(0, .ref 621), (1, .int (Int32.ofInt a0))]) (by decide +kernel) (by (try simp only [ev_sum, ev_nv_cat]); first | done | rfl) (by (try simp only [lv_args, ev_nv_cat]); first | done | rfl) ?_ x S' hJ
  unfold jm_271
  refine ev_r_aload_n (pc := 0) (k := 0) (v := .ref 621) trivial (by decide +kernel) (by rfl) ?_
  refine ev_r_iconst (pc := 1) (k := 0) (by decide +kernel) ?_
  refine ev_r_putI (pc := 2) (y := 321) (ci := 13) (f := 0) (by decide) (by decide +kernel) (by decide +kernel) (by exact ev_ob_621) rfl rfl ?_
  intro s1
  refine ev_r_iload_n (pc := 5) (k := 1) (v := Int32.ofInt a0) (by decide +kernel) (by rfl) ?_
  refine ev_r_stat (pc := 6) (y := 329) (kind := 2) (mi := 224) (na := 1) (as := [.int (Int32.ofInt a0)]) (rest := []) (encc := ev_oI) (Q := ev_bl) (fun x S1 h => jt_224 d (by omega) Q a0 ha0 s1 x S1 h) (Or.inl rfl) (by decide +kernel) (by decide +kernel) (by decide +kernel) (by decide +kernel) rfl (by (try simp only [ev_sum, ev_nv_cat]); first | done | rfl) ?_
  intro x3 s2 hx3
  replace hx3 := ev_bl_rng hx3
  show ev_w _ _ _ _ _ [.int (Int32.ofInt x3)] _ _ _ _
  refine ev_r_if (pc := 9) (q := .ne) (o := 9) (t := 18) (c := x3 ≠ 0) (by decide +kernel) (ev_k_ne hx3 ev_rng0) (by decide +kernel) ?_ ?_
  · intro c4
    refine ev_r_aload_n (pc := 18) (k := 0) (v := .ref 621) trivial (by decide +kernel) (by rfl) ?_
    refine ev_r_iload_n (pc := 19) (k := 1) (v := Int32.ofInt a0) (by decide +kernel) (by rfl) ?_
    refine ev_r_bipush (pc := 20) (k := 97) (by decide +kernel) (by decide +kernel) ?_
    refine ev_r_isub (pc := 22) (by decide +kernel) ?_
    intro x5 hx5
    refine ev_r_virt (pc := 23) (y := 522) (mi := 265) (na := 1) (k := 621) (as := [.int (Int32.ofInt x5)]) (rest := []) (encc := ev_oI) (Q := ev_rng) (fun x S1 h => jt_265 d (by omega) Q x5 hx5 s2 x S1 h) (by exact ev_ob_621) (by decide +kernel) (by decide +kernel) (by decide +kernel) (by decide +kernel) rfl (by (try simp only [ev_sum, ev_nv_cat]); first | done | rfl) ?_
    intro x7 s6 hx7
    show ev_w _ _ _ _ _ [.int (Int32.ofInt x7)] _ _ _ _
    refine ev_r_istore_n (pc := 26) (k := 2) (by decide +kernel) (by decide +kernel) rfl ?_
    refine ev_r_iload_n (pc := 27) (k := 2) (v := Int32.ofInt x7) (by decide +kernel) (by exact ev_lk_st1_self) ?_
    refine ev_r_iconst (pc := 28) (k := -1) (by decide +kernel) ?_
    refine ev_r_icmp (pc := 29) (q := .eq) (o := 57) (t := 86) (c := x7 = (-1)) (by decide +kernel) (ev_k_eq hx7 (by decide)) (by decide +kernel) ?_ ?_
    · intro c8
      refine ev_r_iload_n (pc := 86) (k := 2) (v := Int32.ofInt x7) (by decide +kernel) (by exact ev_lk_st1_self) ?_
      exact ev_r_ireturn (pc := 87) (x := x7) (v := Int32.ofInt x7) (ty := .int) hx7 (by decide +kernel) (by decide +kernel) rfl rfl
    · intro c8
      refine ev_r_iconst (pc := 32) (k := 0) (by decide +kernel) ?_
      refine ev_r_istore_n (pc := 33) (k := 3) (by decide +kernel) (by decide +kernel) rfl ?_
      exact jlt_271_34 d hd Q a0 x7 ha0 hx7   Q 0 (by decide) s6 _ (by exact (ev_l1 (ev_l1 (by rfl) (by decide) (by decide)) (by decide) (by decide))) (by exact (ev_l1 (ev_lk_st1 (by rfl) (by decide) rfl) (by decide) (by decide))) (by exact (ev_lk_st1 ev_lk_st1_self (by decide) rfl)) (by exact ev_lk_st1_self)
  · intro c4
    refine ev_r_aload_n (pc := 12) (k := 0) (v := .ref 621) trivial (by decide +kernel) (by rfl) ?_
    refine ev_r_iconst (pc := 13) (k := 1) (by decide +kernel) ?_
    refine ev_r_virt (pc := 14) (y := 342) (mi := 221) (na := 1) (k := 621) (as := [.int (Int32.ofInt 1)]) (rest := []) (encc := ev_oI) (Q := ev_rng) (fun x S1 h => jt_221 d (by omega) Q 1 (by decide) s2 x S1 h) (by exact ev_ob_621) (by decide +kernel) (by decide +kernel) (by decide +kernel) (by decide +kernel) rfl (by (try simp only [ev_sum, ev_nv_cat]); first | done | rfl) ?_
    intro x29 s28 hx29
    show ev_w _ _ _ _ _ [.int (Int32.ofInt x29)] _ _ _ _
    exact ev_r_ireturn (pc := 17) (x := x29) (v := Int32.ofInt x29) (ty := .int) hx29 (by decide +kernel) (by decide +kernel) rfl rfl
/-- MendBenchModel.pattern()I -/
def jm_272 (Q : Nat)  (S : ev_St) : Option ((Int) × ev_St) := ev_b (ev_pI S 621 0 0) fun s1 => ev_b (s1.1 621 5) fun x2 => if x2 ≠ 12 then (ev_bd (jm_265 Q ((-1)) s1) fun x5 s4 => if x5 ≠ (-1) then (ev_b (s4.1 621 5) fun x7 => ev_bd (jm_270 Q x7 s4) fun _ s8 => ev_b (ev_pI s8 621 1 0) fun s9 => ev_b (s9.1 621 5) fun x10 => ev_ck (x10 + 1) fun x11 => ev_b (ev_pI s9 621 5 x11) fun s12 => ev_b (s12.1 621 5) fun x13 => ev_ck (x13 - 1) fun x14 => some (x14, s12)) else (some ((-1), s4))) else (ev_bd (jm_221 Q 1 s1) fun x16 s15 => some (x16, s15))
theorem jt_272 (d : Nat) (hd : 9 ≤ d) (Q : Nat)   (S : ev_St) (x : Int) (S' : ev_St) (hJ : jm_272 Q  S = some (x, S')) : ev_Ref d 272 [.ref 621] S (ev_eI x) S' (ev_rng x) := by
  obtain ⟨d, rfl⟩ : ∃ e, d = e + 1 := ⟨d - 1, by omega⟩
  refine ev_ref_of (P := ev_rng) (lv := [(0, .ref 621)]) (by decide +kernel) (by (try simp only [ev_sum, ev_nv_cat]); first | done | rfl) (by (try simp only [lv_args, ev_nv_cat]); first | done | rfl) ?_ x S' hJ
  unfold jm_272
  refine ev_r_aload_n (pc := 0) (k := 0) (v := .ref 621) trivial (by decide +kernel) (by rfl) ?_
  refine ev_r_iconst (pc := 1) (k := 0) (by decide +kernel) ?_
  refine ev_r_putI (pc := 2) (y := 321) (ci := 13) (f := 0) (by decide) (by decide +kernel) (by decide +kernel) (by exact ev_ob_621) rfl rfl ?_
  intro s1
  refine ev_r_aload_n (pc := 5) (k := 0) (v := .ref 621) trivial (by decide +kernel) (by rfl) ?_
  refine ev_r_getI (pc := 6) (y := 525) (ci := 13) (f := 5) (fin := 0) (by decide +kernel) (by decide +kernel) (by exact ev_ob_621) rfl ?_
  intro x2 hx2
  refine ev_r_bipush (pc := 9) (k := 12) (by decide +kernel) (by decide +kernel) ?_
  refine ev_r_icmp (pc := 11) (q := .ne) (o := 9) (t := 20) (c := x2 ≠ 12) (by decide +kernel) (ev_k_ne hx2 (by decide)) (by decide +kernel) ?_ ?_
  · intro c3
    refine ev_r_aload_n (pc := 20) (k := 0) (v := .ref 621) trivial (by decide +kernel) (by rfl) ?_
    refine ev_r_iconst (pc := 21) (k := -1) (by decide +kernel) ?_
    refine ev_r_virt (pc := 22) (y := 522) (mi := 265) (na := 1) (k := 621) (as := [.int (Int32.ofInt ((-1)))]) (rest := []) (encc := ev_oI) (Q := ev_rng) (fun x S1 h => jt_265 d (by omega) Q ((-1)) (by decide) s1 x S1 h) (by exact ev_ob_621) (by decide +kernel) (by decide +kernel) (by decide +kernel) (by decide +kernel) rfl (by (try simp only [ev_sum, ev_nv_cat]); first | done | rfl) ?_
    intro x5 s4 hx5
    show ev_w _ _ _ _ _ [.int (Int32.ofInt x5)] _ _ _ _
    refine ev_r_iconst (pc := 25) (k := -1) (by decide +kernel) ?_
    refine ev_r_icmp (pc := 26) (q := .ne) (o := 5) (t := 31) (c := x5 ≠ (-1)) (by decide +kernel) (ev_k_ne hx5 (by decide)) (by decide +kernel) ?_ ?_
    · intro c6
      refine ev_r_aload_n (pc := 31) (k := 0) (v := .ref 621) trivial (by decide +kernel) (by rfl) ?_
      refine ev_r_aload_n (pc := 32) (k := 0) (v := .ref 621) trivial (by decide +kernel) (by rfl) ?_
      refine ev_r_getI (pc := 33) (y := 525) (ci := 13) (f := 5) (fin := 0) (by decide +kernel) (by decide +kernel) (by exact ev_ob_621) rfl ?_
      intro x7 hx7
      refine ev_r_virt (pc := 36) (y := 528) (mi := 270) (na := 1) (k := 621) (as := [.int (Int32.ofInt x7)]) (rest := []) (encc := ev_oU) (Q := ev_PU) (fun x S1 h => jt_270 d (by omega) Q x7 hx7 s4 x S1 h) (by exact ev_ob_621) (by decide +kernel) (by decide +kernel) (by decide +kernel) (by decide +kernel) rfl (by (try simp only [ev_sum, ev_nv_cat]); first | done | rfl) ?_
      intro _ s8 _
      show ev_w _ _ _ _ _ [] _ _ _ _
      refine ev_r_aload_n (pc := 39) (k := 0) (v := .ref 621) trivial (by decide +kernel) (by rfl) ?_
      refine ev_r_iconst (pc := 40) (k := 0) (by decide +kernel) ?_
      refine ev_r_putI (pc := 41) (y := 346) (ci := 13) (f := 1) (by decide) (by decide +kernel) (by decide +kernel) (by exact ev_ob_621) rfl rfl ?_
      intro s9
      refine ev_r_aload_n (pc := 44) (k := 0) (v := .ref 621) trivial (by decide +kernel) (by rfl) ?_
      refine ev_r_dup (pc := 45) rfl (by decide +kernel) ?_
      refine ev_r_getI (pc := 46) (y := 525) (ci := 13) (f := 5) (fin := 0) (by decide +kernel) (by decide +kernel) (by exact ev_ob_621) rfl ?_
      intro x10 hx10
      refine ev_r_iconst (pc := 49) (k := 1) (by decide +kernel) ?_
      refine ev_r_iadd (pc := 50) (by decide +kernel) ?_
      intro x11 hx11
      refine ev_r_putI (pc := 51) (y := 525) (ci := 13) (f := 5) hx11 (by decide +kernel) (by decide +kernel) (by exact ev_ob_621) rfl rfl ?_
      intro s12
      refine ev_r_aload_n (pc := 54) (k := 0) (v := .ref 621) trivial (by decide +kernel) (by rfl) ?_
      refine ev_r_getI (pc := 55) (y := 525) (ci := 13) (f := 5) (fin := 0) (by decide +kernel) (by decide +kernel) (by exact ev_ob_621) rfl ?_
      intro x13 hx13
      refine ev_r_iconst (pc := 58) (k := 1) (by decide +kernel) ?_
      refine ev_r_isub (pc := 59) (by decide +kernel) ?_
      intro x14 hx14
      exact ev_r_ireturn (pc := 60) (x := x14) (v := Int32.ofInt x14) (ty := .int) hx14 (by decide +kernel) (by decide +kernel) rfl rfl
    · intro c6
      refine ev_r_iconst (pc := 29) (k := -1) (by decide +kernel) ?_
      exact ev_r_ireturn (pc := 30) (x := (-1)) (v := Int32.ofInt ((-1))) (ty := .int) (by decide) (by decide +kernel) (by decide +kernel) rfl rfl
  · intro c3
    refine ev_r_aload_n (pc := 14) (k := 0) (v := .ref 621) trivial (by decide +kernel) (by rfl) ?_
    refine ev_r_iconst (pc := 15) (k := 1) (by decide +kernel) ?_
    refine ev_r_virt (pc := 16) (y := 342) (mi := 221) (na := 1) (k := 621) (as := [.int (Int32.ofInt 1)]) (rest := []) (encc := ev_oI) (Q := ev_rng) (fun x S1 h => jt_221 d (by omega) Q 1 (by decide) s1 x S1 h) (by exact ev_ob_621) (by decide +kernel) (by decide +kernel) (by decide +kernel) (by decide +kernel) rfl (by (try simp only [ev_sum, ev_nv_cat]); first | done | rfl) ?_
    intro x16 s15 hx16
    show ev_w _ _ _ _ _ [.int (Int32.ofInt x16)] _ _ _ _
    exact ev_r_ireturn (pc := 19) (x := x16) (v := Int32.ofInt x16) (ty := .int) hx16 (by decide +kernel) (by decide +kernel) rfl rfl
/-- MendBenchModel.isPattern(I)Z -/
def jm_273 (Q : Nat) (a0 : Int) (S : ev_St) : Option ((Int) × ev_St) := ev_b (S.1 621 5) fun x1 => ev_ck (x1 - 1) fun x2 => ev_bd (jm_222 Q a0 0 x2 S) fun x4 s3 => ev_if (ev_bl x4) (some (x4, s3))
theorem jt_273 (d : Nat) (hd : 2 ≤ d) (Q : Nat) (a0 : Int) (ha0 : ev_rng a0) (S : ev_St) (x : Int) (S' : ev_St) (hJ : jm_273 Q a0 S = some (x, S')) : ev_Ref d 273 [.ref 621, .int (Int32.ofInt a0)] S (ev_eI x) S' (ev_bl x) := by
  obtain ⟨d, rfl⟩ : ∃ e, d = e + 1 := ⟨d - 1, by omega⟩
  refine ev_ref_of (P := ev_bl) (lv := [(0, .ref 621), (1, .int (Int32.ofInt a0))]) (by decide +kernel) (by (try simp only [ev_sum, ev_nv_cat]); first | done | rfl) (by (try simp only [lv_args, ev_nv_cat]); first | done | rfl) ?_ x S' hJ
  unfold jm_273
  refine ev_r_iload_n (pc := 0) (k := 1) (v := Int32.ofInt a0) (by decide +kernel) (by rfl) ?_
  refine ev_r_iconst (pc := 1) (k := 0) (by decide +kernel) ?_
  refine ev_r_aload_n (pc := 2) (k := 0) (v := .ref 621) trivial (by decide +kernel) (by rfl) ?_
  refine ev_r_getI (pc := 3) (y := 525) (ci := 13) (f := 5) (fin := 0) (by decide +kernel) (by decide +kernel) (by exact ev_ob_621) rfl ?_
  intro x1 hx1
  refine ev_r_iconst (pc := 6) (k := 1) (by decide +kernel) ?_
  refine ev_r_isub (pc := 7) (by decide +kernel) ?_
  intro x2 hx2
  refine ev_r_stat (pc := 8) (y := 325) (kind := 2) (mi := 222) (na := 3) (as := [.int (Int32.ofInt a0), .int (Int32.ofInt 0), .int (Int32.ofInt x2)]) (rest := []) (encc := ev_oI) (Q := ev_bl) (fun x S1 h => jt_222 d (by omega) Q a0 0 x2 ha0 (by decide) hx2 S x S1 h) (Or.inl rfl) (by decide +kernel) (by decide +kernel) (by decide +kernel) (by decide +kernel) rfl (by (try simp only [ev_sum, ev_nv_cat]); first | done | rfl) ?_
  intro x4 s3 hx4
  replace hx4 := ev_bl_rng hx4
  show ev_w _ _ _ _ _ [.int (Int32.ofInt x4)] _ _ _ _
  refine ev_r_chk ?_
  intro c5
  exact ev_r_ireturn (pc := 11) (x := x4) (v := Int32.ofInt x4) (ty := .boolean) c5 (by decide +kernel) (by decide +kernel) (ev_ret_bl c5) rfl
/-- MendBenchModel.groups(I)I -/
def jm_274 (Q : Nat) (a0 : Int) (S : ev_St) : Option ((Int) × ev_St) := ev_b (ev_pI S 621 0 0) fun s1 => ev_bd (jm_273 Q a0 s1) fun x3 s2 => if x3 = 0 then (ev_bd (jm_221 Q 1 s2) fun x6 s5 => some (x6, s5)) else (ev_if ((0 : Int) ≤ a0 ∧ a0 < (ev_aln 636 : Int)) (ev_b (s2.1 636 (Int.toNat a0)) fun x7 => ev_ck (10 * x7) fun x8 => ev_if ((0 : Int) ≤ a0 ∧ a0 < (ev_aln 639 : Int)) (ev_b (s2.1 639 (Int.toNat a0)) fun x9 => ev_ck (x8 + x9) fun x10 => some (x10, s2))))
theorem jt_274 (d : Nat) (hd : 3 ≤ d) (Q : Nat) (a0 : Int) (ha0 : ev_rng a0) (S : ev_St) (x : Int) (S' : ev_St) (hJ : jm_274 Q a0 S = some (x, S')) : ev_Ref d 274 [.ref 621, .int (Int32.ofInt a0)] S (ev_eI x) S' (ev_rng x) := by
  obtain ⟨d, rfl⟩ : ∃ e, d = e + 1 := ⟨d - 1, by omega⟩
  refine ev_ref_of (P := ev_rng) (lv := [(0, .ref 621), (1, .int (Int32.ofInt a0))]) (by decide +kernel) (by (try simp only [ev_sum, ev_nv_cat]); first | done | rfl) (by (try simp only [lv_args, ev_nv_cat]); first | done | rfl) ?_ x S' hJ
  unfold jm_274
  refine ev_r_aload_n (pc := 0) (k := 0) (v := .ref 621) trivial (by decide +kernel) (by rfl) ?_
  refine ev_r_iconst (pc := 1) (k := 0) (by decide +kernel) ?_
  refine ev_r_putI (pc := 2) (y := 321) (ci := 13) (f := 0) (by decide) (by decide +kernel) (by decide +kernel) (by exact ev_ob_621) rfl rfl ?_
  intro s1
  refine ev_r_aload_n (pc := 5) (k := 0) (v := .ref 621) trivial (by decide +kernel) (by rfl) ?_
  refine ev_r_iload_n (pc := 6) (k := 1) (v := Int32.ofInt a0) (by decide +kernel) (by rfl) ?_
  refine ev_r_virt (pc := 7) (y := 531) (mi := 273) (na := 1) (k := 621) (as := [.int (Int32.ofInt a0)]) (rest := []) (encc := ev_oI) (Q := ev_bl) (fun x S1 h => jt_273 d (by omega) Q a0 ha0 s1 x S1 h) (by exact ev_ob_621) (by decide +kernel) (by decide +kernel) (by decide +kernel) (by decide +kernel) rfl (by (try simp only [ev_sum, ev_nv_cat]); first | done | rfl) ?_
  intro x3 s2 hx3
  replace hx3 := ev_bl_rng hx3
  show ev_w _ _ _ _ _ [.int (Int32.ofInt x3)] _ _ _ _
  refine ev_r_if (pc := 10) (q := .eq) (o := 22) (t := 32) (c := x3 = 0) (by decide +kernel) (ev_k_eq hx3 ev_rng0) (by decide +kernel) ?_ ?_
  · intro c4
    refine ev_r_aload_n (pc := 32) (k := 0) (v := .ref 621) trivial (by decide +kernel) (by rfl) ?_
    refine ev_r_iconst (pc := 33) (k := 1) (by decide +kernel) ?_
    refine ev_r_virt (pc := 34) (y := 342) (mi := 221) (na := 1) (k := 621) (as := [.int (Int32.ofInt 1)]) (rest := []) (encc := ev_oI) (Q := ev_rng) (fun x S1 h => jt_221 d (by omega) Q 1 (by decide) s2 x S1 h) (by exact ev_ob_621) (by decide +kernel) (by decide +kernel) (by decide +kernel) (by decide +kernel) rfl (by (try simp only [ev_sum, ev_nv_cat]); first | done | rfl) ?_
    intro x6 s5 hx6
    show ev_w _ _ _ _ _ [.int (Int32.ofInt x6)] _ _ _ _
    exact ev_r_ireturn (pc := 37) (x := x6) (v := Int32.ofInt x6) (ty := .int) hx6 (by decide +kernel) (by decide +kernel) rfl rfl
  · intro c4
    refine ev_r_bipush (pc := 13) (k := 10) (by decide +kernel) (by decide +kernel) ?_
    refine ev_r_aload_n (pc := 15) (k := 0) (v := .ref 621) trivial (by decide +kernel) (by rfl) ?_
    refine ev_r_getC (pc := 16) (y := 53) (ci := 13) (f := 17) (fin := 1) (k' := 636) (by decide +kernel) (by decide +kernel) (by exact ev_ob_621) rfl rfl ?_
    refine ev_r_iload_n (pc := 19) (k := 1) (v := Int32.ofInt a0) (by decide +kernel) (by rfl) ?_
    refine ev_r_iald (pc := 20) ha0 (by decide +kernel) (by exact ev_ab_636) ?_
    intro x7 hx7
    refine ev_r_imul (pc := 21) (by decide +kernel) ?_
    intro x8 hx8
    refine ev_r_aload_n (pc := 22) (k := 0) (v := .ref 621) trivial (by decide +kernel) (by rfl) ?_
    refine ev_r_getC (pc := 23) (y := 62) (ci := 13) (f := 20) (fin := 1) (k' := 639) (by decide +kernel) (by decide +kernel) (by exact ev_ob_621) rfl rfl ?_
    refine ev_r_iload_n (pc := 26) (k := 1) (v := Int32.ofInt a0) (by decide +kernel) (by rfl) ?_
    refine ev_r_iald (pc := 27) ha0 (by decide +kernel) (by exact ev_ab_639) ?_
    intro x9 hx9
    refine ev_r_iadd (pc := 28) (by decide +kernel) ?_
    intro x10 hx10
    refine ev_r_goto (pc := 29) (o := 8) (t := 37) (by decide +kernel) (by decide +kernel) ?_
    exact ev_r_ireturn (pc := 37) (x := x10) (v := Int32.ofInt x10) (ty := .int) hx10 (by decide +kernel) (by decide +kernel) rfl rfl
/-- MendBenchModel.least(I)I -/
def jm_275 (Q : Nat) (a0 : Int) (S : ev_St) : Option ((Int) × ev_St) := ev_b (ev_pI S 621 0 0) fun s1 => ev_bd (jm_273 Q a0 s1) fun x3 s2 => if x3 = 0 then (ev_bd (jm_221 Q 1 s2) fun x6 s5 => some (x6, s5)) else (ev_ck (320 * a0) fun x7 => ev_if ((0 : Int) ≤ x7 ∧ x7 < (ev_aln 641 : Int)) (ev_b (s2.1 641 (Int.toNat x7)) fun x8 => some (x8, s2)))
theorem jt_275 (d : Nat) (hd : 3 ≤ d) (Q : Nat) (a0 : Int) (ha0 : ev_rng a0) (S : ev_St) (x : Int) (S' : ev_St) (hJ : jm_275 Q a0 S = some (x, S')) : ev_Ref d 275 [.ref 621, .int (Int32.ofInt a0)] S (ev_eI x) S' (ev_rng x) := by
  obtain ⟨d, rfl⟩ : ∃ e, d = e + 1 := ⟨d - 1, by omega⟩
  refine ev_ref_of (P := ev_rng) (lv := [(0, .ref 621), (1, .int (Int32.ofInt a0))]) (by decide +kernel) (by (try simp only [ev_sum, ev_nv_cat]); first | done | rfl) (by (try simp only [lv_args, ev_nv_cat]); first | done | rfl) ?_ x S' hJ
  unfold jm_275
  refine ev_r_aload_n (pc := 0) (k := 0) (v := .ref 621) trivial (by decide +kernel) (by rfl) ?_
  refine ev_r_iconst (pc := 1) (k := 0) (by decide +kernel) ?_
  refine ev_r_putI (pc := 2) (y := 321) (ci := 13) (f := 0) (by decide) (by decide +kernel) (by decide +kernel) (by exact ev_ob_621) rfl rfl ?_
  intro s1
  refine ev_r_aload_n (pc := 5) (k := 0) (v := .ref 621) trivial (by decide +kernel) (by rfl) ?_
  refine ev_r_iload_n (pc := 6) (k := 1) (v := Int32.ofInt a0) (by decide +kernel) (by rfl) ?_
  refine ev_r_virt (pc := 7) (y := 531) (mi := 273) (na := 1) (k := 621) (as := [.int (Int32.ofInt a0)]) (rest := []) (encc := ev_oI) (Q := ev_bl) (fun x S1 h => jt_273 d (by omega) Q a0 ha0 s1 x S1 h) (by exact ev_ob_621) (by decide +kernel) (by decide +kernel) (by decide +kernel) (by decide +kernel) rfl (by (try simp only [ev_sum, ev_nv_cat]); first | done | rfl) ?_
  intro x3 s2 hx3
  replace hx3 := ev_bl_rng hx3
  show ev_w _ _ _ _ _ [.int (Int32.ofInt x3)] _ _ _ _
  refine ev_r_if (pc := 10) (q := .eq) (o := 16) (t := 26) (c := x3 = 0) (by decide +kernel) (ev_k_eq hx3 ev_rng0) (by decide +kernel) ?_ ?_
  · intro c4
    refine ev_r_aload_n (pc := 26) (k := 0) (v := .ref 621) trivial (by decide +kernel) (by rfl) ?_
    refine ev_r_iconst (pc := 27) (k := 1) (by decide +kernel) ?_
    refine ev_r_virt (pc := 28) (y := 342) (mi := 221) (na := 1) (k := 621) (as := [.int (Int32.ofInt 1)]) (rest := []) (encc := ev_oI) (Q := ev_rng) (fun x S1 h => jt_221 d (by omega) Q 1 (by decide) s2 x S1 h) (by exact ev_ob_621) (by decide +kernel) (by decide +kernel) (by decide +kernel) (by decide +kernel) rfl (by (try simp only [ev_sum, ev_nv_cat]); first | done | rfl) ?_
    intro x6 s5 hx6
    show ev_w _ _ _ _ _ [.int (Int32.ofInt x6)] _ _ _ _
    exact ev_r_ireturn (pc := 31) (x := x6) (v := Int32.ofInt x6) (ty := .int) hx6 (by decide +kernel) (by decide +kernel) rfl rfl
  · intro c4
    refine ev_r_aload_n (pc := 13) (k := 0) (v := .ref 621) trivial (by decide +kernel) (by rfl) ?_
    refine ev_r_getC (pc := 14) (y := 68) (ci := 13) (f := 22) (fin := 1) (k' := 641) (by decide +kernel) (by decide +kernel) (by exact ev_ob_621) rfl rfl ?_
    refine ev_r_sipush (pc := 17) (k := 320) (by decide +kernel) (by decide +kernel) ?_
    refine ev_r_iload_n (pc := 20) (k := 1) (v := Int32.ofInt a0) (by decide +kernel) (by rfl) ?_
    refine ev_r_imul (pc := 21) (by decide +kernel) ?_
    intro x7 hx7
    refine ev_r_iald (pc := 22) hx7 (by decide +kernel) (by exact ev_ab_641) ?_
    intro x8 hx8
    refine ev_r_goto (pc := 23) (o := 8) (t := 31) (by decide +kernel) (by decide +kernel) ?_
    exact ev_r_ireturn (pc := 31) (x := x8) (v := Int32.ofInt x8) (ty := .int) hx8 (by decide +kernel) (by decide +kernel) rfl rfl
def jb_276_101 (Q : Nat) (a1 : Int) (x4 : Int) (x5 : Int) (x15 : Int) (K16 : Int → Int → ev_St → Option ((Unit) × ev_St)) (K101 : Int → Int → Int → ev_St → Option ((Unit) × ev_St)) (x25 : Int) (x26 : Int) (x27 : Int) (s37 : ev_St) : Option ((Unit) × ev_St) := if x27 = (-1) then (ev_jn (fun (x41 : Int) (x40 : Int) (r39 : Nat) (s47 : ev_St) => ev_if (ev_bl x41) (ev_if ((0 : Int) ≤ x40 ∧ x40 < (ev_aln r39 : Int)) (ev_b (ev_pI s47 r39 (Int.toNat x40) x41) fun s48 => ev_ck (x5 + (-1)) fun x50 => K16 x4 x50 s48))) fun K258 => ev_jn (fun (x52 : Int) (r51 : Nat) (s58 : ev_St) => K258 0 x52 r51 s58) fun K257 => if x25 = 0 then (K257 x5 658 s37) else (ev_if ((0 : Int) ≤ x15 ∧ x15 < (ev_aln 630 : Int)) (ev_b (s37.1 630 (Int.toNat x15)) fun x60 => ev_jn (fun (x62 : Int) (r61 : Nat) (s68 : ev_St) => K258 1 x62 r61 s68) fun K253 => if x60 = (-1) then (K253 x5 658 s37) else (ev_if ((0 : Int) ≤ x15 ∧ x15 < (ev_aln 632 : Int)) (ev_b (s37.1 632 (Int.toNat x15)) fun x70 => if x70 = 0 then (K257 x5 658 s37) else (K253 x5 658 s37)))))) else (ev_if ((0 : Int) ≤ x15 ∧ x15 < (ev_aln 625 : Int)) (ev_b (s37.1 625 (Int.toNat x15)) fun x72 => ev_jn (fun (x73 : Int) (s83 : ev_St) => ev_jn (fun (x84 : Int) (s93 : ev_St) => ev_jn (fun (x94 : Int) (x95 : Int) (s104 : ev_St) => ev_ck (x4 + x27) fun x105 => ev_if ((0 : Int) ≤ x105 ∧ x105 < (ev_aln 627 : Int)) (ev_b (s104.1 627 (Int.toNat x105)) fun x106 => K101 x94 x95 x106 s104)) fun K205 => ev_jn (fun (x107 : Int) (s116 : ev_St) => K205 x107 0 s116) fun K204 => if x26 = 0 then (K204 x84 s93) else (ev_ck (x4 + x27) fun x118 => ev_if ((0 : Int) ≤ x118 ∧ x118 < (ev_aln 641 : Int)) (ev_b (s93.1 641 (Int.toNat x118)) fun x119 => if x119 ≠ 0 then (K204 x84 s93) else (K205 x84 1 s93)))) fun K181 => ev_jn (fun  (s129 : ev_St) => K181 1 s129) fun K176 => if x25 ≠ 0 then (K176  s83) else (ev_jn (fun  (s139 : ev_St) => K181 0 s139) fun K180 => if x73 = 0 then (K180  s83) else (ev_if ((0 : Int) ≤ x27 ∧ x27 < (ev_aln 658 : Int)) (ev_b (s83.1 658 (Int.toNat x27)) fun x141 => if x141 = 0 then (K180  s83) else (K176  s83))))) fun K154 => if x72 ≠ 18 then (ev_if ((0 : Int) ≤ x15 ∧ x15 < (ev_aln 625 : Int)) (ev_b (s37.1 625 (Int.toNat x15)) fun x144 => ev_bd (jm_267 Q x144 s37) fun x146 s145 => ev_jn (fun  (s156 : ev_St) => K154 1 s156) fun K149 => if x146 ≠ 0 then (K149  s145) else (ev_if ((0 : Int) ≤ x15 ∧ x15 < (ev_aln 625 : Int)) (ev_b (s145.1 625 (Int.toNat x15)) fun x158 => if x158 ≠ 13 then (K154 0 s145) else (K149  s145))))) else (K154 x26 s37)))
def jl_276_101 (Q : Nat) (a1 : Int) (x4 : Int) (x5 : Int) (x15 : Int) (K16 : Int → Int → ev_St → Option ((Unit) × ev_St)) : Nat → Int → Int → Int → ev_St → Option ((Unit) × ev_St)
  | 0 => fun _ _ _ _ => none
  | q + 1 => jb_276_101 Q a1 x4 x5 x15 K16 (jl_276_101 Q a1 x4 x5 x15 K16 q)
theorem jbt_276_101 (d : Nat) (hd : 3 ≤ d + 1) (Q : Nat) (a1 : Int) (x4 : Int) (x5 : Int) (x15 : Int) (ha1 : ev_rng a1) (hx4 : ev_rng x4) (hx5 : ev_rng x5) (hx15 : ev_rng x15) (K16 : Int → Int → ev_St → Option ((Unit) × ev_St)) (hK16 : ∀ (x4 : Int) (hx4 : ev_rng x4), ∀ (x5 : Int) (hx5 : ev_rng x5), ∀ (s11 : ev_St) (w6 : List (Nat × Value)), ev_lk w6 0 = some (.ref 621) → ev_lk w6 2 = some (.int (Int32.ofInt a1)) → ev_lk w6 3 = some (.int (Int32.ofInt x4)) → ev_lk w6 4 = some (.int (Int32.ofInt x5)) → ev_w none (ev_Mof 276) d 16 w6 [] s11 (K16 x4 x5 s11) ev_eU ev_PU) (K101 : Int → Int → Int → ev_St → Option ((Unit) × ev_St)) (hK101 : ∀ (x25 : Int) (hx25 : ev_rng x25), ∀ (x26 : Int) (hx26 : ev_rng x26), ∀ (x27 : Int) (hx27 : ev_rng x27), ∀ (s37 : ev_St) (w28 : List (Nat × Value)), ev_lk w28 0 = some (.ref 621) → ev_lk w28 2 = some (.int (Int32.ofInt a1)) → ev_lk w28 3 = some (.int (Int32.ofInt x4)) → ev_lk w28 4 = some (.int (Int32.ofInt x5)) → ev_lk w28 5 = some (.int (Int32.ofInt x15)) → ev_lk w28 6 = some (.int (Int32.ofInt x25)) → ev_lk w28 7 = some (.int (Int32.ofInt x26)) → ev_lk w28 8 = some (.int (Int32.ofInt x27)) → ev_w none (ev_Mof 276) d 101 w28 [] s37 (K101 x25 x26 x27 s37) ev_eU ev_PU) : ∀ (x25 : Int) (hx25 : ev_rng x25), ∀ (x26 : Int) (hx26 : ev_rng x26), ∀ (x27 : Int) (hx27 : ev_rng x27), ∀ (s37 : ev_St) (w28 : List (Nat × Value)), ev_lk w28 0 = some (.ref 621) → ev_lk w28 2 = some (.int (Int32.ofInt a1)) → ev_lk w28 3 = some (.int (Int32.ofInt x4)) → ev_lk w28 4 = some (.int (Int32.ofInt x5)) → ev_lk w28 5 = some (.int (Int32.ofInt x15)) → ev_lk w28 6 = some (.int (Int32.ofInt x25)) → ev_lk w28 7 = some (.int (Int32.ofInt x26)) → ev_lk w28 8 = some (.int (Int32.ofInt x27)) → ev_w none (ev_Mof 276) d 101 w28 [] s37 (jb_276_101 Q a1 x4 x5 x15 K16 K101 x25 x26 x27 s37) ev_eU ev_PU := by
  intro x25 hx25 x26 hx26 x27 hx27 s37 w28 e29 e30 e31 e32 e33 e34 e35 e36
  unfold jb_276_101
  refine ev_r_iload (pc := 101) (k := 8) (v := Int32.ofInt x27) (by decide +kernel) (by exact e36) ?_
  refine ev_r_iconst (pc := 103) (k := -1) (by decide +kernel) ?_
  refine ev_r_icmp (pc := 104) (q := .eq) (o := 117) (t := 221) (c := x27 = (-1)) (by decide +kernel) (ev_k_eq hx27 (by decide)) (by decide +kernel) ?_ ?_
  · intro c38
    refine ev_r_aload_n (pc := 221) (k := 0) (v := .ref 621) trivial (by decide +kernel) (by exact e29) ?_
    refine ev_r_getC (pc := 222) (y := 120) (ci := 13) (f := 50) (fin := 1) (k' := 658) (by decide +kernel) (by decide +kernel) (by exact ev_ob_621) rfl rfl ?_
    refine ev_r_iload (pc := 225) (k := 4) (v := Int32.ofInt x5) (by decide +kernel) (by exact e32) ?_
    refine ev_r_iload (pc := 227) (k := 6) (v := Int32.ofInt x25) (by decide +kernel) (by exact e34) ?_
    refine ev_r_jn (Q := fun K => ∀ (x41 : Int) (hx41 : ev_rng x41), ∀ (x40 : Int) (hx40 : ev_rng x40), ∀ (r39 : Nat) (hr39 : ev_isAb r39 1 .boolean = true), ∀ (s47 : ev_St) (w42 : List (Nat × Value)), ev_lk w42 0 = some (.ref 621) → ev_lk w42 2 = some (.int (Int32.ofInt a1)) → ev_lk w42 3 = some (.int (Int32.ofInt x4)) → ev_lk w42 4 = some (.int (Int32.ofInt x5)) → ev_w none (ev_Mof 276) d 258 w42 [.int (Int32.ofInt x41), .int (Int32.ofInt x40), .ref r39] s47 (K x41 x40 r39 s47) ev_eU ev_PU) ?_ ?_
    · intro x41 hx41 x40 hx40 r39 hr39 s47 w42 e43 e44 e45 e46
      refine ev_r_chk ?_
      intro c49
      refine ev_r_bast (pc := 258) (ty := .boolean) (Or.inr rfl) (ev_nar_bl c49) hx41 hx40 (by decide +kernel) (by exact hr39) ?_
      intro s48
      refine ev_r_iinc (pc := 259) (k := 4) (c := -1) (x := x5) (by decide +kernel) (by decide +kernel) (by exact e46) (fun _ => rfl) ?_
      intro x50 hx50
      refine ev_r_goto (pc := 262) (o := (-246)) (t := 16) (by decide +kernel) (by decide +kernel) ?_
      exact hK16 x4 hx4 x50 hx50 s48 _ (by exact (ev_l1 e43 (by decide) (by decide))) (by exact (ev_l1 e44 (by decide) (by decide))) (by exact (ev_lk_st1 e45 (by decide) rfl)) (by exact ev_lk_st1_self)
    · intro K258 hK258
      refine ev_r_jn (Q := fun K => ∀ (x52 : Int) (hx52 : ev_rng x52), ∀ (r51 : Nat) (hr51 : ev_isAb r51 1 .boolean = true), ∀ (s58 : ev_St) (w53 : List (Nat × Value)), ev_lk w53 0 = some (.ref 621) → ev_lk w53 2 = some (.int (Int32.ofInt a1)) → ev_lk w53 3 = some (.int (Int32.ofInt x4)) → ev_lk w53 4 = some (.int (Int32.ofInt x5)) → ev_w none (ev_Mof 276) d 257 w53 [.int (Int32.ofInt x52), .ref r51] s58 (K x52 r51 s58) ev_eU ev_PU) ?_ ?_
      · intro x52 hx52 r51 hr51 s58 w53 e54 e55 e56 e57
        refine ev_r_iconst (pc := 257) (k := 0) (by decide +kernel) ?_
        exact hK258 0 (by decide) x52 hx52 r51 hr51 s58 _ (by exact e54) (by exact e55) (by exact e56) (by exact e57)
      · intro K257 hK257
        refine ev_r_if (pc := 229) (q := .eq) (o := 28) (t := 257) (c := x25 = 0) (by decide +kernel) (ev_k_eq hx25 ev_rng0) (by decide +kernel) ?_ ?_
        · intro c59
          exact hK257 x5 hx5 658 ev_ab_658 s37 _ (by exact e29) (by exact e30) (by exact e31) (by exact e32)
        · intro c59
          refine ev_r_aload_n (pc := 232) (k := 0) (v := .ref 621) trivial (by decide +kernel) (by exact e29) ?_
          refine ev_r_getC (pc := 233) (y := 34) (ci := 13) (f := 11) (fin := 1) (k' := 630) (by decide +kernel) (by decide +kernel) (by exact ev_ob_621) rfl rfl ?_
          refine ev_r_iload (pc := 236) (k := 5) (v := Int32.ofInt x15) (by decide +kernel) (by exact e33) ?_
          refine ev_r_iald (pc := 238) hx15 (by decide +kernel) (by exact ev_ab_630) ?_
          intro x60 hx60
          refine ev_r_iconst (pc := 239) (k := -1) (by decide +kernel) ?_
          refine ev_r_jn (Q := fun K => ∀ (x62 : Int) (hx62 : ev_rng x62), ∀ (r61 : Nat) (hr61 : ev_isAb r61 1 .boolean = true), ∀ (s68 : ev_St) (w63 : List (Nat × Value)), ev_lk w63 0 = some (.ref 621) → ev_lk w63 2 = some (.int (Int32.ofInt a1)) → ev_lk w63 3 = some (.int (Int32.ofInt x4)) → ev_lk w63 4 = some (.int (Int32.ofInt x5)) → ev_w none (ev_Mof 276) d 253 w63 [.int (Int32.ofInt x62), .ref r61] s68 (K x62 r61 s68) ev_eU ev_PU) ?_ ?_
          · intro x62 hx62 r61 hr61 s68 w63 e64 e65 e66 e67
            refine ev_r_iconst (pc := 253) (k := 1) (by decide +kernel) ?_
            refine ev_r_goto (pc := 254) (o := 4) (t := 258) (by decide +kernel) (by decide +kernel) ?_
            exact hK258 1 (by decide) x62 hx62 r61 hr61 s68 _ (by exact e64) (by exact e65) (by exact e66) (by exact e67)
          · intro K253 hK253
            refine ev_r_icmp (pc := 240) (q := .eq) (o := 13) (t := 253) (c := x60 = (-1)) (by decide +kernel) (ev_k_eq hx60 (by decide)) (by decide +kernel) ?_ ?_
            · intro c69
              exact hK253 x5 hx5 658 ev_ab_658 s37 _ (by exact e29) (by exact e30) (by exact e31) (by exact e32)
            · intro c69
              refine ev_r_aload_n (pc := 243) (k := 0) (v := .ref 621) trivial (by decide +kernel) (by exact e29) ?_
              refine ev_r_getC (pc := 244) (y := 40) (ci := 13) (f := 13) (fin := 1) (k' := 632) (by decide +kernel) (by decide +kernel) (by exact ev_ob_621) rfl rfl ?_
              refine ev_r_iload (pc := 247) (k := 5) (v := Int32.ofInt x15) (by decide +kernel) (by exact e33) ?_
              refine ev_r_iald (pc := 249) hx15 (by decide +kernel) (by exact ev_ab_632) ?_
              intro x70 hx70
              refine ev_r_if (pc := 250) (q := .eq) (o := 7) (t := 257) (c := x70 = 0) (by decide +kernel) (ev_k_eq hx70 ev_rng0) (by decide +kernel) ?_ ?_
              · intro c71
                exact hK257 x5 hx5 658 ev_ab_658 s37 _ (by exact e29) (by exact e30) (by exact e31) (by exact e32)
              · intro c71
                exact hK253 x5 hx5 658 ev_ab_658 s37 _ (by exact e29) (by exact e30) (by exact e31) (by exact e32)
  · intro c38
    refine ev_r_aload_n (pc := 107) (k := 0) (v := .ref 621) trivial (by decide +kernel) (by exact e29) ?_
    refine ev_r_getC (pc := 108) (y := 19) (ci := 13) (f := 6) (fin := 1) (k' := 625) (by decide +kernel) (by decide +kernel) (by exact ev_ob_621) rfl rfl ?_
    refine ev_r_iload (pc := 111) (k := 5) (v := Int32.ofInt x15) (by decide +kernel) (by exact e33) ?_
    refine ev_r_iald (pc := 113) hx15 (by decide +kernel) (by exact ev_ab_625) ?_
    intro x72 hx72
    refine ev_r_bipush (pc := 114) (k := 18) (by decide +kernel) (by decide +kernel) ?_
    refine ev_r_jn (Q := fun K => ∀ (x73 : Int) (hx73 : ev_rng x73), ∀ (s83 : ev_St) (w74 : List (Nat × Value)), ev_lk w74 0 = some (.ref 621) → ev_lk w74 2 = some (.int (Int32.ofInt a1)) → ev_lk w74 3 = some (.int (Int32.ofInt x4)) → ev_lk w74 4 = some (.int (Int32.ofInt x5)) → ev_lk w74 5 = some (.int (Int32.ofInt x15)) → ev_lk w74 6 = some (.int (Int32.ofInt x25)) → ev_lk w74 7 = some (.int (Int32.ofInt x26)) → ev_lk w74 8 = some (.int (Int32.ofInt x27)) → ev_w none (ev_Mof 276) d 154 w74 [.int (Int32.ofInt x73)] s83 (K x73 s83) ev_eU ev_PU) ?_ ?_
    · intro x73 hx73 s83 w74 e75 e76 e77 e78 e79 e80 e81 e82
      refine ev_r_istore (pc := 154) (k := 9) (by decide +kernel) (by decide +kernel) rfl ?_
      refine ev_r_iload (pc := 156) (k := 6) (v := Int32.ofInt x25) (by decide +kernel) (by exact (ev_l1 e80 (by decide) (by decide))) ?_
      refine ev_r_jn (Q := fun K => ∀ (x84 : Int) (hx84 : ev_rng x84), ∀ (s93 : ev_St) (w85 : List (Nat × Value)), ev_lk w85 0 = some (.ref 621) → ev_lk w85 2 = some (.int (Int32.ofInt a1)) → ev_lk w85 3 = some (.int (Int32.ofInt x4)) → ev_lk w85 4 = some (.int (Int32.ofInt x5)) → ev_lk w85 5 = some (.int (Int32.ofInt x15)) → ev_lk w85 7 = some (.int (Int32.ofInt x26)) → ev_lk w85 8 = some (.int (Int32.ofInt x27)) → ev_w none (ev_Mof 276) d 181 w85 [.int (Int32.ofInt x84)] s93 (K x84 s93) ev_eU ev_PU) ?_ ?_
      · intro x84 hx84 s93 w85 e86 e87 e88 e89 e90 e91 e92
        refine ev_r_istore (pc := 181) (k := 6) (by decide +kernel) (by decide +kernel) rfl ?_
        refine ev_r_iload (pc := 183) (k := 7) (v := Int32.ofInt x26) (by decide +kernel) (by exact (ev_l1 e91 (by decide) (by decide))) ?_
        refine ev_r_jn (Q := fun K => ∀ (x94 : Int) (hx94 : ev_rng x94), ∀ (x95 : Int) (hx95 : ev_rng x95), ∀ (s104 : ev_St) (w96 : List (Nat × Value)), ev_lk w96 0 = some (.ref 621) → ev_lk w96 2 = some (.int (Int32.ofInt a1)) → ev_lk w96 3 = some (.int (Int32.ofInt x4)) → ev_lk w96 4 = some (.int (Int32.ofInt x5)) → ev_lk w96 5 = some (.int (Int32.ofInt x15)) → ev_lk w96 6 = some (.int (Int32.ofInt x94)) → ev_lk w96 8 = some (.int (Int32.ofInt x27)) → ev_w none (ev_Mof 276) d 205 w96 [.int (Int32.ofInt x95)] s104 (K x94 x95 s104) ev_eU ev_PU) ?_ ?_
        · intro x94 hx94 x95 hx95 s104 w96 e97 e98 e99 e100 e101 e102 e103
          refine ev_r_istore (pc := 205) (k := 7) (by decide +kernel) (by decide +kernel) rfl ?_
          refine ev_r_aload_n (pc := 207) (k := 0) (v := .ref 621) trivial (by decide +kernel) (by exact (ev_l1 e97 (by decide) (by decide))) ?_
          refine ev_r_getC (pc := 208) (y := 25) (ci := 13) (f := 8) (fin := 1) (k' := 627) (by decide +kernel) (by decide +kernel) (by exact ev_ob_621) rfl rfl ?_
          refine ev_r_iload_n (pc := 211) (k := 3) (v := Int32.ofInt x4) (by decide +kernel) (by exact (ev_l1 e99 (by decide) (by decide))) ?_
          refine ev_r_iload (pc := 212) (k := 8) (v := Int32.ofInt x27) (by decide +kernel) (by exact (ev_l1 e103 (by decide) (by decide))) ?_
          refine ev_r_iadd (pc := 214) (by decide +kernel) ?_
          intro x105 hx105
          refine ev_r_iald (pc := 215) hx105 (by decide +kernel) (by exact ev_ab_627) ?_
          intro x106 hx106
          refine ev_r_istore (pc := 216) (k := 8) (by decide +kernel) (by decide +kernel) rfl ?_
          refine ev_r_goto (pc := 218) (o := (-117)) (t := 101) (by decide +kernel) (by decide +kernel) ?_
          exact hK101 x94 hx94 x95 hx95 x106 hx106 s104 _ (by exact (ev_l1 (ev_l1 e97 (by decide) (by decide)) (by decide) (by decide))) (by exact (ev_l1 (ev_l1 e98 (by decide) (by decide)) (by decide) (by decide))) (by exact (ev_l1 (ev_l1 e99 (by decide) (by decide)) (by decide) (by decide))) (by exact (ev_l1 (ev_l1 e100 (by decide) (by decide)) (by decide) (by decide))) (by exact (ev_l1 (ev_l1 e101 (by decide) (by decide)) (by decide) (by decide))) (by exact (ev_l1 (ev_lk_st1 e102 (by decide) rfl) (by decide) (by decide))) (by exact (ev_lk_st1 ev_lk_st1_self (by decide) rfl)) (by exact ev_lk_st1_self)
        · intro K205 hK205
          refine ev_r_jn (Q := fun K => ∀ (x107 : Int) (hx107 : ev_rng x107), ∀ (s116 : ev_St) (w108 : List (Nat × Value)), ev_lk w108 0 = some (.ref 621) → ev_lk w108 2 = some (.int (Int32.ofInt a1)) → ev_lk w108 3 = some (.int (Int32.ofInt x4)) → ev_lk w108 4 = some (.int (Int32.ofInt x5)) → ev_lk w108 5 = some (.int (Int32.ofInt x15)) → ev_lk w108 6 = some (.int (Int32.ofInt x107)) → ev_lk w108 8 = some (.int (Int32.ofInt x27)) → ev_w none (ev_Mof 276) d 204 w108 [] s116 (K x107 s116) ev_eU ev_PU) ?_ ?_
          · intro x107 hx107 s116 w108 e109 e110 e111 e112 e113 e114 e115
            refine ev_r_iconst (pc := 204) (k := 0) (by decide +kernel) ?_
            exact hK205 x107 hx107 0 (by decide) s116 _ (by exact e109) (by exact e110) (by exact e111) (by exact e112) (by exact e113) (by exact e114) (by exact e115)
          · intro K204 hK204
            refine ev_r_if (pc := 185) (q := .eq) (o := 19) (t := 204) (c := x26 = 0) (by decide +kernel) (ev_k_eq hx26 ev_rng0) (by decide +kernel) ?_ ?_
            · intro c117
              exact hK204 x84 hx84 s93 _ (by exact (ev_l1 e86 (by decide) (by decide))) (by exact (ev_l1 e87 (by decide) (by decide))) (by exact (ev_l1 e88 (by decide) (by decide))) (by exact (ev_l1 e89 (by decide) (by decide))) (by exact (ev_lk_st1 e90 (by decide) rfl)) (by exact ev_lk_st1_self) (by exact (ev_l1 e92 (by decide) (by decide)))
            · intro c117
              refine ev_r_aload_n (pc := 188) (k := 0) (v := .ref 621) trivial (by decide +kernel) (by exact (ev_l1 e86 (by decide) (by decide))) ?_
              refine ev_r_getC (pc := 189) (y := 68) (ci := 13) (f := 22) (fin := 1) (k' := 641) (by decide +kernel) (by decide +kernel) (by exact ev_ob_621) rfl rfl ?_
              refine ev_r_iload_n (pc := 192) (k := 3) (v := Int32.ofInt x4) (by decide +kernel) (by exact (ev_l1 e88 (by decide) (by decide))) ?_
              refine ev_r_iload (pc := 193) (k := 8) (v := Int32.ofInt x27) (by decide +kernel) (by exact (ev_l1 e92 (by decide) (by decide))) ?_
              refine ev_r_iadd (pc := 195) (by decide +kernel) ?_
              intro x118 hx118
              refine ev_r_iald (pc := 196) hx118 (by decide +kernel) (by exact ev_ab_641) ?_
              intro x119 hx119
              refine ev_r_if (pc := 197) (q := .ne) (o := 7) (t := 204) (c := x119 ≠ 0) (by decide +kernel) (ev_k_ne hx119 ev_rng0) (by decide +kernel) ?_ ?_
              · intro c120
                exact hK204 x84 hx84 s93 _ (by exact (ev_l1 e86 (by decide) (by decide))) (by exact (ev_l1 e87 (by decide) (by decide))) (by exact (ev_l1 e88 (by decide) (by decide))) (by exact (ev_l1 e89 (by decide) (by decide))) (by exact (ev_lk_st1 e90 (by decide) rfl)) (by exact ev_lk_st1_self) (by exact (ev_l1 e92 (by decide) (by decide)))
              · intro c120
                refine ev_r_iconst (pc := 200) (k := 1) (by decide +kernel) ?_
                refine ev_r_goto (pc := 201) (o := 4) (t := 205) (by decide +kernel) (by decide +kernel) ?_
                exact hK205 x84 hx84 1 (by decide) s93 _ (by exact (ev_l1 e86 (by decide) (by decide))) (by exact (ev_l1 e87 (by decide) (by decide))) (by exact (ev_l1 e88 (by decide) (by decide))) (by exact (ev_l1 e89 (by decide) (by decide))) (by exact (ev_lk_st1 e90 (by decide) rfl)) (by exact ev_lk_st1_self) (by exact (ev_l1 e92 (by decide) (by decide)))
      · intro K181 hK181
        refine ev_r_jn (Q := fun K => ∀ (s129 : ev_St) (w121 : List (Nat × Value)), ev_lk w121 0 = some (.ref 621) → ev_lk w121 2 = some (.int (Int32.ofInt a1)) → ev_lk w121 3 = some (.int (Int32.ofInt x4)) → ev_lk w121 4 = some (.int (Int32.ofInt x5)) → ev_lk w121 5 = some (.int (Int32.ofInt x15)) → ev_lk w121 7 = some (.int (Int32.ofInt x26)) → ev_lk w121 8 = some (.int (Int32.ofInt x27)) → ev_w none (ev_Mof 276) d 176 w121 [] s129 (K  s129) ev_eU ev_PU) ?_ ?_
        · intro  s129 w121 e122 e123 e124 e125 e126 e127 e128
          refine ev_r_iconst (pc := 176) (k := 1) (by decide +kernel) ?_
          refine ev_r_goto (pc := 177) (o := 4) (t := 181) (by decide +kernel) (by decide +kernel) ?_
          exact hK181 1 (by decide) s129 _ (by exact e122) (by exact e123) (by exact e124) (by exact e125) (by exact e126) (by exact e127) (by exact e128)
        · intro K176 hK176
          refine ev_r_if (pc := 158) (q := .ne) (o := 18) (t := 176) (c := x25 ≠ 0) (by decide +kernel) (ev_k_ne hx25 ev_rng0) (by decide +kernel) ?_ ?_
          · intro c130
            exact hK176  s83 _ (by exact (ev_l1 e75 (by decide) (by decide))) (by exact (ev_l1 e76 (by decide) (by decide))) (by exact (ev_l1 e77 (by decide) (by decide))) (by exact (ev_l1 e78 (by decide) (by decide))) (by exact (ev_l1 e79 (by decide) (by decide))) (by exact (ev_l1 e81 (by decide) (by decide))) (by exact (ev_lk_st1 e82 (by decide) rfl))
          · intro c130
            refine ev_r_iload (pc := 161) (k := 9) (v := Int32.ofInt x73) (by decide +kernel) (by exact ev_lk_st1_self) ?_
            refine ev_r_jn (Q := fun K => ∀ (s139 : ev_St) (w131 : List (Nat × Value)), ev_lk w131 0 = some (.ref 621) → ev_lk w131 2 = some (.int (Int32.ofInt a1)) → ev_lk w131 3 = some (.int (Int32.ofInt x4)) → ev_lk w131 4 = some (.int (Int32.ofInt x5)) → ev_lk w131 5 = some (.int (Int32.ofInt x15)) → ev_lk w131 7 = some (.int (Int32.ofInt x26)) → ev_lk w131 8 = some (.int (Int32.ofInt x27)) → ev_w none (ev_Mof 276) d 180 w131 [] s139 (K  s139) ev_eU ev_PU) ?_ ?_
            · intro  s139 w131 e132 e133 e134 e135 e136 e137 e138
              refine ev_r_iconst (pc := 180) (k := 0) (by decide +kernel) ?_
              exact hK181 0 (by decide) s139 _ (by exact e132) (by exact e133) (by exact e134) (by exact e135) (by exact e136) (by exact e137) (by exact e138)
            · intro K180 hK180
              refine ev_r_if (pc := 163) (q := .eq) (o := 17) (t := 180) (c := x73 = 0) (by decide +kernel) (ev_k_eq hx73 ev_rng0) (by decide +kernel) ?_ ?_
              · intro c140
                exact hK180  s83 _ (by exact (ev_l1 e75 (by decide) (by decide))) (by exact (ev_l1 e76 (by decide) (by decide))) (by exact (ev_l1 e77 (by decide) (by decide))) (by exact (ev_l1 e78 (by decide) (by decide))) (by exact (ev_l1 e79 (by decide) (by decide))) (by exact (ev_l1 e81 (by decide) (by decide))) (by exact (ev_lk_st1 e82 (by decide) rfl))
              · intro c140
                refine ev_r_aload_n (pc := 166) (k := 0) (v := .ref 621) trivial (by decide +kernel) (by exact (ev_l1 e75 (by decide) (by decide))) ?_
                refine ev_r_getC (pc := 167) (y := 120) (ci := 13) (f := 50) (fin := 1) (k' := 658) (by decide +kernel) (by decide +kernel) (by exact ev_ob_621) rfl rfl ?_
                refine ev_r_iload (pc := 170) (k := 8) (v := Int32.ofInt x27) (by decide +kernel) (by exact (ev_lk_st1 e82 (by decide) rfl)) ?_
                refine ev_r_bald (pc := 172) (ty := .boolean) (Or.inr rfl) hx27 (by decide +kernel) (by exact ev_ab_658) ?_
                intro x141 hx141
                refine ev_r_if (pc := 173) (q := .eq) (o := 7) (t := 180) (c := x141 = 0) (by decide +kernel) (ev_k_eq hx141 ev_rng0) (by decide +kernel) ?_ ?_
                · intro c142
                  exact hK180  s83 _ (by exact (ev_l1 e75 (by decide) (by decide))) (by exact (ev_l1 e76 (by decide) (by decide))) (by exact (ev_l1 e77 (by decide) (by decide))) (by exact (ev_l1 e78 (by decide) (by decide))) (by exact (ev_l1 e79 (by decide) (by decide))) (by exact (ev_l1 e81 (by decide) (by decide))) (by exact (ev_lk_st1 e82 (by decide) rfl))
                · intro c142
                  exact hK176  s83 _ (by exact (ev_l1 e75 (by decide) (by decide))) (by exact (ev_l1 e76 (by decide) (by decide))) (by exact (ev_l1 e77 (by decide) (by decide))) (by exact (ev_l1 e78 (by decide) (by decide))) (by exact (ev_l1 e79 (by decide) (by decide))) (by exact (ev_l1 e81 (by decide) (by decide))) (by exact (ev_lk_st1 e82 (by decide) rfl))
    · intro K154 hK154
      refine ev_r_icmp (pc := 116) (q := .ne) (o := 8) (t := 124) (c := x72 ≠ 18) (by decide +kernel) (ev_k_ne hx72 (by decide)) (by decide +kernel) ?_ ?_
      · intro c143
        refine ev_r_aload_n (pc := 124) (k := 0) (v := .ref 621) trivial (by decide +kernel) (by exact e29) ?_
        refine ev_r_getC (pc := 125) (y := 19) (ci := 13) (f := 6) (fin := 1) (k' := 625) (by decide +kernel) (by decide +kernel) (by exact ev_ob_621) rfl rfl ?_
        refine ev_r_iload (pc := 128) (k := 5) (v := Int32.ofInt x15) (by decide +kernel) (by exact e33) ?_
        refine ev_r_iald (pc := 130) hx15 (by decide +kernel) (by exact ev_ab_625) ?_
        intro x144 hx144
        refine ev_r_stat (pc := 131) (y := 504) (kind := 2) (mi := 267) (na := 1) (as := [.int (Int32.ofInt x144)]) (rest := []) (encc := ev_oI) (Q := ev_bl) (fun x S1 h => jt_267 d (by omega) Q x144 hx144 s37 x S1 h) (Or.inl rfl) (by decide +kernel) (by decide +kernel) (by decide +kernel) (by decide +kernel) rfl (by (try simp only [ev_sum, ev_nv_cat]); first | done | rfl) ?_
        intro x146 s145 hx146
        replace hx146 := ev_bl_rng hx146
        show ev_w _ _ _ _ _ [.int (Int32.ofInt x146)] _ _ _ _
        refine ev_r_jn (Q := fun K => ∀ (s156 : ev_St) (w147 : List (Nat × Value)), ev_lk w147 0 = some (.ref 621) → ev_lk w147 2 = some (.int (Int32.ofInt a1)) → ev_lk w147 3 = some (.int (Int32.ofInt x4)) → ev_lk w147 4 = some (.int (Int32.ofInt x5)) → ev_lk w147 5 = some (.int (Int32.ofInt x15)) → ev_lk w147 6 = some (.int (Int32.ofInt x25)) → ev_lk w147 7 = some (.int (Int32.ofInt x26)) → ev_lk w147 8 = some (.int (Int32.ofInt x27)) → ev_w none (ev_Mof 276) d 149 w147 [] s156 (K  s156) ev_eU ev_PU) ?_ ?_
        · intro  s156 w147 e148 e149 e150 e151 e152 e153 e154 e155
          refine ev_r_iconst (pc := 149) (k := 1) (by decide +kernel) ?_
          refine ev_r_goto (pc := 150) (o := 4) (t := 154) (by decide +kernel) (by decide +kernel) ?_
          exact hK154 1 (by decide) s156 _ (by exact e148) (by exact e149) (by exact e150) (by exact e151) (by exact e152) (by exact e153) (by exact e154) (by exact e155)
        · intro K149 hK149
          refine ev_r_if (pc := 134) (q := .ne) (o := 15) (t := 149) (c := x146 ≠ 0) (by decide +kernel) (ev_k_ne hx146 ev_rng0) (by decide +kernel) ?_ ?_
          · intro c157
            exact hK149  s145 _ (by exact e29) (by exact e30) (by exact e31) (by exact e32) (by exact e33) (by exact e34) (by exact e35) (by exact e36)
          · intro c157
            refine ev_r_aload_n (pc := 137) (k := 0) (v := .ref 621) trivial (by decide +kernel) (by exact e29) ?_
            refine ev_r_getC (pc := 138) (y := 19) (ci := 13) (f := 6) (fin := 1) (k' := 625) (by decide +kernel) (by decide +kernel) (by exact ev_ob_621) rfl rfl ?_
            refine ev_r_iload (pc := 141) (k := 5) (v := Int32.ofInt x15) (by decide +kernel) (by exact e33) ?_
            refine ev_r_iald (pc := 143) hx15 (by decide +kernel) (by exact ev_ab_625) ?_
            intro x158 hx158
            refine ev_r_bipush (pc := 144) (k := 13) (by decide +kernel) (by decide +kernel) ?_
            refine ev_r_icmp (pc := 146) (q := .ne) (o := 7) (t := 153) (c := x158 ≠ 13) (by decide +kernel) (ev_k_ne hx158 (by decide)) (by decide +kernel) ?_ ?_
            · intro c159
              refine ev_r_iconst (pc := 153) (k := 0) (by decide +kernel) ?_
              exact hK154 0 (by decide) s145 _ (by exact e29) (by exact e30) (by exact e31) (by exact e32) (by exact e33) (by exact e34) (by exact e35) (by exact e36)
            · intro c159
              exact hK149  s145 _ (by exact e29) (by exact e30) (by exact e31) (by exact e32) (by exact e33) (by exact e34) (by exact e35) (by exact e36)
      · intro c143
        refine ev_r_iload (pc := 119) (k := 7) (v := Int32.ofInt x26) (by decide +kernel) (by exact e35) ?_
        refine ev_r_goto (pc := 121) (o := 33) (t := 154) (by decide +kernel) (by decide +kernel) ?_
        exact hK154 x26 hx26 s37 _ (by exact e29) (by exact e30) (by exact e31) (by exact e32) (by exact e33) (by exact e34) (by exact e35) (by exact e36)
theorem jlt_276_101 (d : Nat) (hd : 3 ≤ d + 1) (Q : Nat) (a1 : Int) (x4 : Int) (x5 : Int) (x15 : Int) (ha1 : ev_rng a1) (hx4 : ev_rng x4) (hx5 : ev_rng x5) (hx15 : ev_rng x15) (K16 : Int → Int → ev_St → Option ((Unit) × ev_St)) (hK16 : ∀ (x4 : Int) (hx4 : ev_rng x4), ∀ (x5 : Int) (hx5 : ev_rng x5), ∀ (s11 : ev_St) (w6 : List (Nat × Value)), ev_lk w6 0 = some (.ref 621) → ev_lk w6 2 = some (.int (Int32.ofInt a1)) → ev_lk w6 3 = some (.int (Int32.ofInt x4)) → ev_lk w6 4 = some (.int (Int32.ofInt x5)) → ev_w none (ev_Mof 276) d 16 w6 [] s11 (K16 x4 x5 s11) ev_eU ev_PU) : ∀ q : Nat, ∀ (x25 : Int) (hx25 : ev_rng x25), ∀ (x26 : Int) (hx26 : ev_rng x26), ∀ (x27 : Int) (hx27 : ev_rng x27), ∀ (s37 : ev_St) (w28 : List (Nat × Value)), ev_lk w28 0 = some (.ref 621) → ev_lk w28 2 = some (.int (Int32.ofInt a1)) → ev_lk w28 3 = some (.int (Int32.ofInt x4)) → ev_lk w28 4 = some (.int (Int32.ofInt x5)) → ev_lk w28 5 = some (.int (Int32.ofInt x15)) → ev_lk w28 6 = some (.int (Int32.ofInt x25)) → ev_lk w28 7 = some (.int (Int32.ofInt x26)) → ev_lk w28 8 = some (.int (Int32.ofInt x27)) → ev_w none (ev_Mof 276) d 101 w28 [] s37 (jl_276_101 Q a1 x4 x5 x15 K16 q x25 x26 x27 s37) ev_eU ev_PU := by
  intro q
  induction q with
  | zero =>
    intro x25 hx25 x26 hx26 x27 hx27 s37 w28 e29 e30 e31 e32 e33 e34 e35 e36
    exact ev_w_none
  | succ q ih => exact jbt_276_101 d hd Q a1 x4 x5 x15 ha1 hx4 hx5 hx15 K16 hK16 _ ih
def jb_276_16 (Q : Nat) (a1 : Int)  (K16 : Int → Int → ev_St → Option ((Unit) × ev_St)) (x4 : Int) (x5 : Int) (s11 : ev_St) : Option ((Unit) × ev_St) := if x5 < 0 then (some ((), s11)) else (ev_ck (x4 + x5) fun x13 => ev_if ((0 : Int) ≤ x13 ∧ x13 < (ev_aln 625 : Int)) (ev_b (s11.1 625 (Int.toNat x13)) fun x14 => ev_jn (fun (x15 : Int) (x16 : Int) (s23 : ev_St) => ev_if ((0 : Int) ≤ x15 ∧ x15 < (ev_aln 626 : Int)) (ev_b (s23.1 626 (Int.toNat x15)) fun x24 => jl_276_101 Q a1 x4 x5 x15 K16 Q x16 1 x24 s23)) fun K87 => if x14 ≠ 0 then (ev_if ((0 : Int) ≤ x13 ∧ x13 < (ev_aln 625 : Int)) (ev_b (s11.1 625 (Int.toNat x13)) fun x161 => ev_jn (fun  (s168 : ev_St) => K87 x13 1 s168) fun K82 => if x161 = 7 then (K82  s11) else (ev_if ((0 : Int) ≤ x13 ∧ x13 < (ev_aln 625 : Int)) (ev_b (s11.1 625 (Int.toNat x13)) fun x170 => if x170 ≠ 14 then (K87 x13 0 s11) else (K82  s11))))) else (ev_if ((0 : Int) ≤ x13 ∧ x13 < (ev_aln 633 : Int)) (ev_b (s11.2.1 633 (Int.toNat x13)) fun y172 => ev_if ((0 : Int) ≤ x13 ∧ x13 < (ev_aln 634 : Int)) (ev_b (s11.2.1 634 (Int.toNat x13)) fun y173 => ev_bd (jm_244 Q y172 y173 a1 s11) fun x175 s174 => K87 x13 x175 s174)))))
def jl_276_16 (Q : Nat) (a1 : Int)  : Nat → Int → Int → ev_St → Option ((Unit) × ev_St)
  | 0 => fun _ _ _ => none
  | q + 1 => jb_276_16 Q a1  (jl_276_16 Q a1  q)
theorem jbt_276_16 (d : Nat) (hd : 3 ≤ d + 1) (Q : Nat) (a1 : Int) (ha1 : ev_rng a1)   (K16 : Int → Int → ev_St → Option ((Unit) × ev_St)) (hK16 : ∀ (x4 : Int) (hx4 : ev_rng x4), ∀ (x5 : Int) (hx5 : ev_rng x5), ∀ (s11 : ev_St) (w6 : List (Nat × Value)), ev_lk w6 0 = some (.ref 621) → ev_lk w6 2 = some (.int (Int32.ofInt a1)) → ev_lk w6 3 = some (.int (Int32.ofInt x4)) → ev_lk w6 4 = some (.int (Int32.ofInt x5)) → ev_w none (ev_Mof 276) d 16 w6 [] s11 (K16 x4 x5 s11) ev_eU ev_PU) : ∀ (x4 : Int) (hx4 : ev_rng x4), ∀ (x5 : Int) (hx5 : ev_rng x5), ∀ (s11 : ev_St) (w6 : List (Nat × Value)), ev_lk w6 0 = some (.ref 621) → ev_lk w6 2 = some (.int (Int32.ofInt a1)) → ev_lk w6 3 = some (.int (Int32.ofInt x4)) → ev_lk w6 4 = some (.int (Int32.ofInt x5)) → ev_w none (ev_Mof 276) d 16 w6 [] s11 (jb_276_16 Q a1  K16 x4 x5 s11) ev_eU ev_PU := by
  intro x4 hx4 x5 hx5 s11 w6 e7 e8 e9 e10
  unfold jb_276_16
  refine ev_r_iload (pc := 16) (k := 4) (v := Int32.ofInt x5) (by decide +kernel) (by exact e10) ?_
  refine ev_r_if (pc := 18) (q := .lt) (o := 247) (t := 265) (c := x5 < 0) (by decide +kernel) (ev_k_lt hx5 ev_rng0) (by decide +kernel) ?_ ?_
  · intro c12
    exact ev_r_return (pc := 265) (x := ()) trivial (by decide +kernel) (by decide +kernel) rfl
  · intro c12
    refine ev_r_iload_n (pc := 21) (k := 3) (v := Int32.ofInt x4) (by decide +kernel) (by exact e9) ?_
    refine ev_r_iload (pc := 22) (k := 4) (v := Int32.ofInt x5) (by decide +kernel) (by exact e10) ?_
    refine ev_r_iadd (pc := 24) (by decide +kernel) ?_
    intro x13 hx13
    refine ev_r_istore (pc := 25) (k := 5) (by decide +kernel) (by decide +kernel) rfl ?_
    refine ev_r_aload_n (pc := 27) (k := 0) (v := .ref 621) trivial (by decide +kernel) (by exact (ev_l1 e7 (by decide) (by decide))) ?_
    refine ev_r_getC (pc := 28) (y := 19) (ci := 13) (f := 6) (fin := 1) (k' := 625) (by decide +kernel) (by decide +kernel) (by exact ev_ob_621) rfl rfl ?_
    refine ev_r_iload (pc := 31) (k := 5) (v := Int32.ofInt x13) (by decide +kernel) (by exact ev_lk_st1_self) ?_
    refine ev_r_iald (pc := 33) hx13 (by decide +kernel) (by exact ev_ab_625) ?_
    intro x14 hx14
    refine ev_r_jn (Q := fun K => ∀ (x15 : Int) (hx15 : ev_rng x15), ∀ (x16 : Int) (hx16 : ev_rng x16), ∀ (s23 : ev_St) (w17 : List (Nat × Value)), ev_lk w17 0 = some (.ref 621) → ev_lk w17 2 = some (.int (Int32.ofInt a1)) → ev_lk w17 3 = some (.int (Int32.ofInt x4)) → ev_lk w17 4 = some (.int (Int32.ofInt x5)) → ev_lk w17 5 = some (.int (Int32.ofInt x15)) → ev_w none (ev_Mof 276) d 87 w17 [.int (Int32.ofInt x16)] s23 (K x15 x16 s23) ev_eU ev_PU) ?_ ?_
    · intro x15 hx15 x16 hx16 s23 w17 e18 e19 e20 e21 e22
      refine ev_r_istore (pc := 87) (k := 6) (by decide +kernel) (by decide +kernel) rfl ?_
      refine ev_r_iconst (pc := 89) (k := 1) (by decide +kernel) ?_
      refine ev_r_istore (pc := 90) (k := 7) (by decide +kernel) (by decide +kernel) rfl ?_
      refine ev_r_aload_n (pc := 92) (k := 0) (v := .ref 621) trivial (by decide +kernel) (by exact (ev_l1 (ev_l1 e18 (by decide) (by decide)) (by decide) (by decide))) ?_
      refine ev_r_getC (pc := 93) (y := 22) (ci := 13) (f := 7) (fin := 1) (k' := 626) (by decide +kernel) (by decide +kernel) (by exact ev_ob_621) rfl rfl ?_
      refine ev_r_iload (pc := 96) (k := 5) (v := Int32.ofInt x15) (by decide +kernel) (by exact (ev_l1 (ev_lk_st1 e22 (by decide) rfl) (by decide) (by decide))) ?_
      refine ev_r_iald (pc := 98) hx15 (by decide +kernel) (by exact ev_ab_626) ?_
      intro x24 hx24
      refine ev_r_istore (pc := 99) (k := 8) (by decide +kernel) (by decide +kernel) rfl ?_
      exact jlt_276_101 d hd Q a1 x4 x5 x15 ha1 hx4 hx5 hx15 K16 hK16 Q x16 hx16 1 (by decide) x24 hx24 s23 _ (by exact (ev_l1 (ev_l1 (ev_l1 e18 (by decide) (by decide)) (by decide) (by decide)) (by decide) (by decide))) (by exact (ev_l1 (ev_l1 (ev_l1 e19 (by decide) (by decide)) (by decide) (by decide)) (by decide) (by decide))) (by exact (ev_l1 (ev_l1 (ev_l1 e20 (by decide) (by decide)) (by decide) (by decide)) (by decide) (by decide))) (by exact (ev_l1 (ev_l1 (ev_l1 e21 (by decide) (by decide)) (by decide) (by decide)) (by decide) (by decide))) (by exact (ev_l1 (ev_l1 (ev_lk_st1 e22 (by decide) rfl) (by decide) (by decide)) (by decide) (by decide))) (by exact (ev_l1 (ev_lk_st1 ev_lk_st1_self (by decide) rfl) (by decide) (by decide))) (by exact (ev_lk_st1 ev_lk_st1_self (by decide) rfl)) (by exact ev_lk_st1_self)
    · intro K87 hK87
      refine ev_r_if (pc := 34) (q := .ne) (o := 24) (t := 58) (c := x14 ≠ 0) (by decide +kernel) (ev_k_ne hx14 ev_rng0) (by decide +kernel) ?_ ?_
      · intro c160
        refine ev_r_aload_n (pc := 58) (k := 0) (v := .ref 621) trivial (by decide +kernel) (by exact (ev_l1 e7 (by decide) (by decide))) ?_
        refine ev_r_getC (pc := 59) (y := 19) (ci := 13) (f := 6) (fin := 1) (k' := 625) (by decide +kernel) (by decide +kernel) (by exact ev_ob_621) rfl rfl ?_
        refine ev_r_iload (pc := 62) (k := 5) (v := Int32.ofInt x13) (by decide +kernel) (by exact ev_lk_st1_self) ?_
        refine ev_r_iald (pc := 64) hx13 (by decide +kernel) (by exact ev_ab_625) ?_
        intro x161 hx161
        refine ev_r_bipush (pc := 65) (k := 7) (by decide +kernel) (by decide +kernel) ?_
        refine ev_r_jn (Q := fun K => ∀ (s168 : ev_St) (w162 : List (Nat × Value)), ev_lk w162 0 = some (.ref 621) → ev_lk w162 2 = some (.int (Int32.ofInt a1)) → ev_lk w162 3 = some (.int (Int32.ofInt x4)) → ev_lk w162 4 = some (.int (Int32.ofInt x5)) → ev_lk w162 5 = some (.int (Int32.ofInt x13)) → ev_w none (ev_Mof 276) d 82 w162 [] s168 (K  s168) ev_eU ev_PU) ?_ ?_
        · intro  s168 w162 e163 e164 e165 e166 e167
          refine ev_r_iconst (pc := 82) (k := 1) (by decide +kernel) ?_
          refine ev_r_goto (pc := 83) (o := 4) (t := 87) (by decide +kernel) (by decide +kernel) ?_
          exact hK87 x13 hx13 1 (by decide) s168 _ (by exact e163) (by exact e164) (by exact e165) (by exact e166) (by exact e167)
        · intro K82 hK82
          refine ev_r_icmp (pc := 67) (q := .eq) (o := 15) (t := 82) (c := x161 = 7) (by decide +kernel) (ev_k_eq hx161 (by decide)) (by decide +kernel) ?_ ?_
          · intro c169
            exact hK82  s11 _ (by exact (ev_l1 e7 (by decide) (by decide))) (by exact (ev_l1 e8 (by decide) (by decide))) (by exact (ev_l1 e9 (by decide) (by decide))) (by exact (ev_lk_st1 e10 (by decide) rfl)) (by exact ev_lk_st1_self)
          · intro c169
            refine ev_r_aload_n (pc := 70) (k := 0) (v := .ref 621) trivial (by decide +kernel) (by exact (ev_l1 e7 (by decide) (by decide))) ?_
            refine ev_r_getC (pc := 71) (y := 19) (ci := 13) (f := 6) (fin := 1) (k' := 625) (by decide +kernel) (by decide +kernel) (by exact ev_ob_621) rfl rfl ?_
            refine ev_r_iload (pc := 74) (k := 5) (v := Int32.ofInt x13) (by decide +kernel) (by exact ev_lk_st1_self) ?_
            refine ev_r_iald (pc := 76) hx13 (by decide +kernel) (by exact ev_ab_625) ?_
            intro x170 hx170
            refine ev_r_bipush (pc := 77) (k := 14) (by decide +kernel) (by decide +kernel) ?_
            refine ev_r_icmp (pc := 79) (q := .ne) (o := 7) (t := 86) (c := x170 ≠ 14) (by decide +kernel) (ev_k_ne hx170 (by decide)) (by decide +kernel) ?_ ?_
            · intro c171
              refine ev_r_iconst (pc := 86) (k := 0) (by decide +kernel) ?_
              exact hK87 x13 hx13 0 (by decide) s11 _ (by exact (ev_l1 e7 (by decide) (by decide))) (by exact (ev_l1 e8 (by decide) (by decide))) (by exact (ev_l1 e9 (by decide) (by decide))) (by exact (ev_lk_st1 e10 (by decide) rfl)) (by exact ev_lk_st1_self)
            · intro c171
              exact hK82  s11 _ (by exact (ev_l1 e7 (by decide) (by decide))) (by exact (ev_l1 e8 (by decide) (by decide))) (by exact (ev_l1 e9 (by decide) (by decide))) (by exact (ev_lk_st1 e10 (by decide) rfl)) (by exact ev_lk_st1_self)
      · intro c160
        refine ev_r_aload_n (pc := 37) (k := 0) (v := .ref 621) trivial (by decide +kernel) (by exact (ev_l1 e7 (by decide) (by decide))) ?_
        refine ev_r_getC (pc := 38) (y := 43) (ci := 13) (f := 14) (fin := 1) (k' := 633) (by decide +kernel) (by decide +kernel) (by exact ev_ob_621) rfl rfl ?_
        refine ev_r_iload (pc := 41) (k := 5) (v := Int32.ofInt x13) (by decide +kernel) (by exact ev_lk_st1_self) ?_
        refine ev_r_lald (pc := 43) hx13 (by decide +kernel) (by exact ev_ab_633) ?_
        intro y172
        refine ev_r_aload_n (pc := 44) (k := 0) (v := .ref 621) trivial (by decide +kernel) (by exact (ev_l1 e7 (by decide) (by decide))) ?_
        refine ev_r_getC (pc := 45) (y := 47) (ci := 13) (f := 15) (fin := 1) (k' := 634) (by decide +kernel) (by decide +kernel) (by exact ev_ob_621) rfl rfl ?_
        refine ev_r_iload (pc := 48) (k := 5) (v := Int32.ofInt x13) (by decide +kernel) (by exact ev_lk_st1_self) ?_
        refine ev_r_lald (pc := 50) hx13 (by decide +kernel) (by exact ev_ab_634) ?_
        intro y173
        refine ev_r_iload_n (pc := 51) (k := 2) (v := Int32.ofInt a1) (by decide +kernel) (by exact (ev_l1 e8 (by decide) (by decide))) ?_
        refine ev_r_stat (pc := 52) (y := 534) (kind := 2) (mi := 244) (na := 3) (as := [.long y172, .long y173, .int (Int32.ofInt a1)]) (rest := []) (encc := ev_oI) (Q := ev_bl) (fun x S1 h => jt_244 d (by omega) Q y172 y173 a1 ha1 s11 x S1 h) (Or.inl rfl) (by decide +kernel) (by decide +kernel) (by decide +kernel) (by decide +kernel) rfl (by (try simp only [ev_sum, ev_nv_cat]); first | done | rfl) ?_
        intro x175 s174 hx175
        replace hx175 := ev_bl_rng hx175
        show ev_w _ _ _ _ _ [.int (Int32.ofInt x175)] _ _ _ _
        refine ev_r_goto (pc := 55) (o := 32) (t := 87) (by decide +kernel) (by decide +kernel) ?_
        exact hK87 x13 hx13 x175 hx175 s174 _ (by exact (ev_l1 e7 (by decide) (by decide))) (by exact (ev_l1 e8 (by decide) (by decide))) (by exact (ev_l1 e9 (by decide) (by decide))) (by exact (ev_lk_st1 e10 (by decide) rfl)) (by exact ev_lk_st1_self)
theorem jlt_276_16 (d : Nat) (hd : 3 ≤ d + 1) (Q : Nat) (a1 : Int) (ha1 : ev_rng a1)   : ∀ q : Nat, ∀ (x4 : Int) (hx4 : ev_rng x4), ∀ (x5 : Int) (hx5 : ev_rng x5), ∀ (s11 : ev_St) (w6 : List (Nat × Value)), ev_lk w6 0 = some (.ref 621) → ev_lk w6 2 = some (.int (Int32.ofInt a1)) → ev_lk w6 3 = some (.int (Int32.ofInt x4)) → ev_lk w6 4 = some (.int (Int32.ofInt x5)) → ev_w none (ev_Mof 276) d 16 w6 [] s11 (jl_276_16 Q a1  q x4 x5 s11) ev_eU ev_PU := by
  intro q
  induction q with
  | zero =>
    intro x4 hx4 x5 hx5 s11 w6 e7 e8 e9 e10
    exact ev_w_none
  | succ q ih => exact jbt_276_16 d hd Q a1 ha1   _ ih
/-- MendBenchModel.marksBegins(II)V -/
def jm_276 (Q : Nat) (a0 : Int) (a1 : Int) (S : ev_St) : Option ((Unit) × ev_St) := ev_ck (320 * a0) fun x1 => ev_if ((0 : Int) ≤ a0 ∧ a0 < (ev_aln 635 : Int)) (ev_b (S.1 635 (Int.toNat a0)) fun x2 => ev_ck (x2 - 1) fun x3 => jl_276_16 Q a1  Q x1 x3 S)
theorem jt_276 (d : Nat) (hd : 3 ≤ d) (Q : Nat) (a0 : Int) (a1 : Int) (ha0 : ev_rng a0) (ha1 : ev_rng a1) (S : ev_St) (x : Unit) (S' : ev_St) (hJ : jm_276 Q a0 a1 S = some (x, S')) : ev_Ref d 276 [.ref 621, .int (Int32.ofInt a0), .int (Int32.ofInt a1)] S (ev_eU x) S' (ev_PU x) := by
  obtain ⟨d, rfl⟩ : ∃ e, d = e + 1 := ⟨d - 1, by omega⟩
  refine ev_ref_of (P := ev_PU) (lv := [(0, .ref 621), (1, .int (Int32.ofInt a0)), (2, .int (Int32.ofInt a1))]) (by decide +kernel) (by (try simp only [ev_sum, ev_nv_cat]); first | done | rfl) (by (try simp only [lv_args, ev_nv_cat]); first | done | rfl) ?_ x S' hJ
  unfold jm_276
  refine ev_r_sipush (pc := 0) (k := 320) (by decide +kernel) (by decide +kernel) ?_
  refine ev_r_iload_n (pc := 3) (k := 1) (v := Int32.ofInt a0) (by decide +kernel) (by rfl) ?_
  refine ev_r_imul (pc := 4) (by decide +kernel) ?_
  intro x1 hx1
  refine ev_r_istore_n (pc := 5) (k := 3) (by decide +kernel) (by decide +kernel) rfl ?_
  refine ev_r_aload_n (pc := 6) (k := 0) (v := .ref 621) trivial (by decide +kernel) (by exact (ev_l1 (by rfl) (by decide) (by decide))) ?_
  refine ev_r_getC (pc := 7) (y := 50) (ci := 13) (f := 16) (fin := 1) (k' := 635) (by decide +kernel) (by decide +kernel) (by exact ev_ob_621) rfl rfl ?_
  refine ev_r_iload_n (pc := 10) (k := 1) (v := Int32.ofInt a0) (by decide +kernel) (by exact (ev_l1 (by rfl) (by decide) (by decide))) ?_
  refine ev_r_iald (pc := 11) ha0 (by decide +kernel) (by exact ev_ab_635) ?_
  intro x2 hx2
  refine ev_r_iconst (pc := 12) (k := 1) (by decide +kernel) ?_
  refine ev_r_isub (pc := 13) (by decide +kernel) ?_
  intro x3 hx3
  refine ev_r_istore (pc := 14) (k := 4) (by decide +kernel) (by decide +kernel) rfl ?_
  exact jlt_276_16 d hd Q a1 ha1   Q x1 hx1 x3 hx3 S _ (by exact (ev_l1 (ev_l1 (by rfl) (by decide) (by decide)) (by decide) (by decide))) (by exact (ev_l1 (ev_lk_st1 (by rfl) (by decide) rfl) (by decide) (by decide))) (by exact (ev_lk_st1 ev_lk_st1_self (by decide) rfl)) (by exact ev_lk_st1_self)
/-- MendBenchModel.begins(II)Z -/
def jm_277 (Q : Nat) (a0 : Int) (a1 : Int) (S : ev_St) : Option ((Int) × ev_St) := ev_bd (jm_273 Q a0 S) fun x2 s1 => ev_jn (fun (x3 : Int) (s8 : ev_St) => ev_b (ev_pI s8 621 0 x3) fun s9 => ev_b (s9.1 621 0) fun x10 => if x10 ≤ 0 then (ev_bd (jm_276 Q a0 a1 s9) fun _ s12 => ev_if ((0 : Int) ≤ 0 ∧ 0 < (ev_aln 658 : Int)) (ev_b (s12.1 658 (Int.toNat 0)) fun x13 => if x13 ≠ 0 then (some (1, s12)) else (ev_ck (320 * a0) fun x15 => ev_if ((0 : Int) ≤ x15 ∧ x15 < (ev_aln 641 : Int)) (ev_b (s12.1 641 (Int.toNat x15)) fun x16 => if x16 ≠ 0 then (some (0, s12)) else (some (1, s12)))))) else (some (0, s9))) fun K25 => if x2 ≠ 0 then (ev_bd (jm_223 Q a1 s1) fun x20 s19 => if x20 = 0 then (K25 2 s19) else (K25 0 s19)) else (K25 1 s1)
theorem jt_277 (d : Nat) (hd : 4 ≤ d) (Q : Nat) (a0 : Int) (a1 : Int) (ha0 : ev_rng a0) (ha1 : ev_rng a1) (S : ev_St) (x : Int) (S' : ev_St) (hJ : jm_277 Q a0 a1 S = some (x, S')) : ev_Ref d 277 [.ref 621, .int (Int32.ofInt a0), .int (Int32.ofInt a1)] S (ev_eI x) S' (ev_bl x) := by
  obtain ⟨d, rfl⟩ : ∃ e, d = e + 1 := ⟨d - 1, by omega⟩
  refine ev_ref_of (P := ev_bl) (lv := [(0, .ref 621), (1, .int (Int32.ofInt a0)), (2, .int (Int32.ofInt a1))]) (by decide +kernel) (by (try simp only [ev_sum, ev_nv_cat]); first | done | rfl) (by (try simp only [lv_args, ev_nv_cat]); first | done | rfl) ?_ x S' hJ
  unfold jm_277
  refine ev_r_aload_n (pc := 0) (k := 0) (v := .ref 621) trivial (by decide +kernel) (by rfl) ?_
  refine ev_r_aload_n (pc := 1) (k := 0) (v := .ref 621) trivial (by decide +kernel) (by rfl) ?_
  refine ev_r_iload_n (pc := 2) (k := 1) (v := Int32.ofInt a0) (by decide +kernel) (by rfl) ?_
  refine ev_r_virt (pc := 3) (y := 531) (mi := 273) (na := 1) (k := 621) (as := [.int (Int32.ofInt a0)]) (rest := [.ref 621]) (encc := ev_oI) (Q := ev_bl) (fun x S1 h => jt_273 d (by omega) Q a0 ha0 S x S1 h) (by exact ev_ob_621) (by decide +kernel) (by decide +kernel) (by decide +kernel) (by decide +kernel) rfl (by (try simp only [ev_sum, ev_nv_cat]); first | done | rfl) ?_
  intro x2 s1 hx2
  replace hx2 := ev_bl_rng hx2
  show ev_w _ _ _ _ _ [.int (Int32.ofInt x2), .ref 621] _ _ _ _
  refine ev_r_jn (Q := fun K => ∀ (x3 : Int) (hx3 : ev_rng x3), ∀ (s8 : ev_St) (w4 : List (Nat × Value)), ev_lk w4 0 = some (.ref 621) → ev_lk w4 1 = some (.int (Int32.ofInt a0)) → ev_lk w4 2 = some (.int (Int32.ofInt a1)) → ev_w none (ev_Mof 277) d 25 w4 [.int (Int32.ofInt x3), .ref 621] s8 (K x3 s8) ev_eI ev_bl) ?_ ?_
  · intro x3 hx3 s8 w4 e5 e6 e7
    refine ev_r_putI (pc := 25) (y := 321) (ci := 13) (f := 0) hx3 (by decide +kernel) (by decide +kernel) (by exact ev_ob_621) rfl rfl ?_
    intro s9
    refine ev_r_aload_n (pc := 28) (k := 0) (v := .ref 621) trivial (by decide +kernel) (by exact e5) ?_
    refine ev_r_getI (pc := 29) (y := 321) (ci := 13) (f := 0) (fin := 0) (by decide +kernel) (by decide +kernel) (by exact ev_ob_621) rfl ?_
    intro x10 hx10
    refine ev_r_if (pc := 32) (q := .le) (o := 5) (t := 37) (c := x10 ≤ 0) (by decide +kernel) (ev_k_le hx10 ev_rng0) (by decide +kernel) ?_ ?_
    · intro c11
      refine ev_r_aload_n (pc := 37) (k := 0) (v := .ref 621) trivial (by decide +kernel) (by exact e5) ?_
      refine ev_r_iload_n (pc := 38) (k := 1) (v := Int32.ofInt a0) (by decide +kernel) (by exact e6) ?_
      refine ev_r_iload_n (pc := 39) (k := 2) (v := Int32.ofInt a1) (by decide +kernel) (by exact e7) ?_
      refine ev_r_virt (pc := 40) (y := 538) (mi := 276) (na := 2) (k := 621) (as := [.int (Int32.ofInt a0), .int (Int32.ofInt a1)]) (rest := []) (encc := ev_oU) (Q := ev_PU) (fun x S1 h => jt_276 d (by omega) Q a0 a1 ha0 ha1 s9 x S1 h) (by exact ev_ob_621) (by decide +kernel) (by decide +kernel) (by decide +kernel) (by decide +kernel) rfl (by (try simp only [ev_sum, ev_nv_cat]); first | done | rfl) ?_
      intro _ s12 _
      show ev_w _ _ _ _ _ [] _ _ _ _
      refine ev_r_aload_n (pc := 43) (k := 0) (v := .ref 621) trivial (by decide +kernel) (by exact e5) ?_
      refine ev_r_getC (pc := 44) (y := 120) (ci := 13) (f := 50) (fin := 1) (k' := 658) (by decide +kernel) (by decide +kernel) (by exact ev_ob_621) rfl rfl ?_
      refine ev_r_iconst (pc := 47) (k := 0) (by decide +kernel) ?_
      refine ev_r_bald (pc := 48) (ty := .boolean) (Or.inr rfl) (by decide) (by decide +kernel) (by exact ev_ab_658) ?_
      intro x13 hx13
      refine ev_r_if (pc := 49) (q := .ne) (o := 16) (t := 65) (c := x13 ≠ 0) (by decide +kernel) (ev_k_ne hx13 ev_rng0) (by decide +kernel) ?_ ?_
      · intro c14
        refine ev_r_iconst (pc := 65) (k := 1) (by decide +kernel) ?_
        refine ev_r_goto (pc := 66) (o := 4) (t := 70) (by decide +kernel) (by decide +kernel) ?_
        exact ev_r_ireturn (pc := 70) (x := 1) (v := Int32.ofInt 1) (ty := .boolean) (by decide : ev_bl 1) (by decide +kernel) (by decide +kernel) (ev_ret_bl (by decide : ev_bl 1)) rfl
      · intro c14
        refine ev_r_aload_n (pc := 52) (k := 0) (v := .ref 621) trivial (by decide +kernel) (by exact e5) ?_
        refine ev_r_getC (pc := 53) (y := 68) (ci := 13) (f := 22) (fin := 1) (k' := 641) (by decide +kernel) (by decide +kernel) (by exact ev_ob_621) rfl rfl ?_
        refine ev_r_sipush (pc := 56) (k := 320) (by decide +kernel) (by decide +kernel) ?_
        refine ev_r_iload_n (pc := 59) (k := 1) (v := Int32.ofInt a0) (by decide +kernel) (by exact e6) ?_
        refine ev_r_imul (pc := 60) (by decide +kernel) ?_
        intro x15 hx15
        refine ev_r_iald (pc := 61) hx15 (by decide +kernel) (by exact ev_ab_641) ?_
        intro x16 hx16
        refine ev_r_if (pc := 62) (q := .ne) (o := 7) (t := 69) (c := x16 ≠ 0) (by decide +kernel) (ev_k_ne hx16 ev_rng0) (by decide +kernel) ?_ ?_
        · intro c17
          refine ev_r_iconst (pc := 69) (k := 0) (by decide +kernel) ?_
          exact ev_r_ireturn (pc := 70) (x := 0) (v := Int32.ofInt 0) (ty := .boolean) (by decide : ev_bl 0) (by decide +kernel) (by decide +kernel) (ev_ret_bl (by decide : ev_bl 0)) rfl
        · intro c17
          refine ev_r_iconst (pc := 65) (k := 1) (by decide +kernel) ?_
          refine ev_r_goto (pc := 66) (o := 4) (t := 70) (by decide +kernel) (by decide +kernel) ?_
          exact ev_r_ireturn (pc := 70) (x := 1) (v := Int32.ofInt 1) (ty := .boolean) (by decide : ev_bl 1) (by decide +kernel) (by decide +kernel) (ev_ret_bl (by decide : ev_bl 1)) rfl
    · intro c11
      refine ev_r_iconst (pc := 35) (k := 0) (by decide +kernel) ?_
      exact ev_r_ireturn (pc := 36) (x := 0) (v := Int32.ofInt 0) (ty := .boolean) (by decide : ev_bl 0) (by decide +kernel) (by decide +kernel) (ev_ret_bl (by decide : ev_bl 0)) rfl
  · intro K25 hK25
    refine ev_r_if (pc := 6) (q := .ne) (o := 7) (t := 13) (c := x2 ≠ 0) (by decide +kernel) (ev_k_ne hx2 ev_rng0) (by decide +kernel) ?_ ?_
    · intro c18
      refine ev_r_iload_n (pc := 13) (k := 2) (v := Int32.ofInt a1) (by decide +kernel) (by rfl) ?_
      refine ev_r_stat (pc := 14) (y := 339) (kind := 2) (mi := 223) (na := 1) (as := [.int (Int32.ofInt a1)]) (rest := [.ref 621]) (encc := ev_oI) (Q := ev_bl) (fun x S1 h => jt_223 d (by omega) Q a1 ha1 s1 x S1 h) (Or.inl rfl) (by decide +kernel) (by decide +kernel) (by decide +kernel) (by decide +kernel) rfl (by (try simp only [ev_sum, ev_nv_cat]); first | done | rfl) ?_
      intro x20 s19 hx20
      replace hx20 := ev_bl_rng hx20
      show ev_w _ _ _ _ _ [.int (Int32.ofInt x20), .ref 621] _ _ _ _
      refine ev_r_if (pc := 17) (q := .eq) (o := 7) (t := 24) (c := x20 = 0) (by decide +kernel) (ev_k_eq hx20 ev_rng0) (by decide +kernel) ?_ ?_
      · intro c21
        refine ev_r_iconst (pc := 24) (k := 2) (by decide +kernel) ?_
        exact hK25 2 (by decide) s19 _ (by rfl) (by rfl) (by rfl)
      · intro c21
        refine ev_r_iconst (pc := 20) (k := 0) (by decide +kernel) ?_
        refine ev_r_goto (pc := 21) (o := 4) (t := 25) (by decide +kernel) (by decide +kernel) ?_
        exact hK25 0 (by decide) s19 _ (by rfl) (by rfl) (by rfl)
    · intro c18
      refine ev_r_iconst (pc := 9) (k := 1) (by decide +kernel) ?_
      refine ev_r_goto (pc := 10) (o := 15) (t := 25) (by decide +kernel) (by decide +kernel) ?_
      exact hK25 1 (by decide) s1 _ (by rfl) (by rfl) (by rfl)
def jb_278_8 (Q : Nat) (a0 : Int)  (K8 : Int → Int → Int → ev_St → Option ((Int) × ev_St)) (x1 : Int) (x2 : Int) (x3 : Int) (s10 : ev_St) : Option ((Int) × ev_St) := if 127 ≤ x3 then (if x2 ≠ 1 then (some ((-1), s10)) else (some (x1, s10))) else (ev_bd (jm_223 Q x3 s10) fun x14 s13 => ev_jn (fun (x15 : Int) (x16 : Int) (s23 : ev_St) => ev_ck (x3 + 1) fun x24 => K8 x15 x16 x24 s23) fun K49 => if x14 = 0 then (K49 x1 x2 s13) else (ev_if ((0 : Int) ≤ a0 ∧ a0 < (ev_aln 633 : Int)) (ev_b (s13.2.1 633 (Int.toNat a0)) fun y26 => ev_if ((0 : Int) ≤ a0 ∧ a0 < (ev_aln 634 : Int)) (ev_b (s13.2.1 634 (Int.toNat a0)) fun y27 => ev_bd (jm_244 Q y26 y27 x3 s13) fun x29 s28 => if x29 = 0 then (K49 x1 x2 s28) else (ev_ck (x2 + 1) fun x31 => K49 x3 x31 s28)))))
def jl_278_8 (Q : Nat) (a0 : Int)  : Nat → Int → Int → Int → ev_St → Option ((Int) × ev_St)
  | 0 => fun _ _ _ _ => none
  | q + 1 => jb_278_8 Q a0  (jl_278_8 Q a0  q)
theorem jbt_278_8 (d : Nat) (hd : 3 ≤ d + 1) (Q : Nat) (a0 : Int) (ha0 : ev_rng a0)   (K8 : Int → Int → Int → ev_St → Option ((Int) × ev_St)) (hK8 : ∀ (x1 : Int) (hx1 : ev_rng x1), ∀ (x2 : Int) (hx2 : ev_rng x2), ∀ (x3 : Int) (hx3 : ev_rng x3), ∀ (s10 : ev_St) (w4 : List (Nat × Value)), ev_lk w4 0 = some (.ref 621) → ev_lk w4 1 = some (.int (Int32.ofInt a0)) → ev_lk w4 2 = some (.int (Int32.ofInt x1)) → ev_lk w4 3 = some (.int (Int32.ofInt x2)) → ev_lk w4 4 = some (.int (Int32.ofInt x3)) → ev_w none (ev_Mof 278) d 8 w4 [] s10 (K8 x1 x2 x3 s10) ev_eI ev_rng) : ∀ (x1 : Int) (hx1 : ev_rng x1), ∀ (x2 : Int) (hx2 : ev_rng x2), ∀ (x3 : Int) (hx3 : ev_rng x3), ∀ (s10 : ev_St) (w4 : List (Nat × Value)), ev_lk w4 0 = some (.ref 621) → ev_lk w4 1 = some (.int (Int32.ofInt a0)) → ev_lk w4 2 = some (.int (Int32.ofInt x1)) → ev_lk w4 3 = some (.int (Int32.ofInt x2)) → ev_lk w4 4 = some (.int (Int32.ofInt x3)) → ev_w none (ev_Mof 278) d 8 w4 [] s10 (jb_278_8 Q a0  K8 x1 x2 x3 s10) ev_eI ev_rng := by
  intro x1 hx1 x2 hx2 x3 hx3 s10 w4 e5 e6 e7 e8 e9
  unfold jb_278_8
  refine ev_r_iload (pc := 8) (k := 4) (v := Int32.ofInt x3) (by decide +kernel) (by exact e9) ?_
  refine ev_r_bipush (pc := 10) (k := 127) (by decide +kernel) (by decide +kernel) ?_
  refine ev_r_icmp (pc := 12) (q := .ge) (o := 43) (t := 55) (c := 127 ≤ x3) (by decide +kernel) (ev_k_ge hx3 (by decide)) (by decide +kernel) ?_ ?_
  · intro c11
    refine ev_r_iload_n (pc := 55) (k := 3) (v := Int32.ofInt x2) (by decide +kernel) (by exact e8) ?_
    refine ev_r_iconst (pc := 56) (k := 1) (by decide +kernel) ?_
    refine ev_r_icmp (pc := 57) (q := .ne) (o := 7) (t := 64) (c := x2 ≠ 1) (by decide +kernel) (ev_k_ne hx2 (by decide)) (by decide +kernel) ?_ ?_
    · intro c12
      refine ev_r_iconst (pc := 64) (k := -1) (by decide +kernel) ?_
      exact ev_r_ireturn (pc := 65) (x := (-1)) (v := Int32.ofInt ((-1))) (ty := .int) (by decide) (by decide +kernel) (by decide +kernel) rfl rfl
    · intro c12
      refine ev_r_iload_n (pc := 60) (k := 2) (v := Int32.ofInt x1) (by decide +kernel) (by exact e7) ?_
      refine ev_r_goto (pc := 61) (o := 4) (t := 65) (by decide +kernel) (by decide +kernel) ?_
      exact ev_r_ireturn (pc := 65) (x := x1) (v := Int32.ofInt x1) (ty := .int) hx1 (by decide +kernel) (by decide +kernel) rfl rfl
  · intro c11
    refine ev_r_iload (pc := 15) (k := 4) (v := Int32.ofInt x3) (by decide +kernel) (by exact e9) ?_
    refine ev_r_stat (pc := 17) (y := 339) (kind := 2) (mi := 223) (na := 1) (as := [.int (Int32.ofInt x3)]) (rest := []) (encc := ev_oI) (Q := ev_bl) (fun x S1 h => jt_223 d (by omega) Q x3 hx3 s10 x S1 h) (Or.inl rfl) (by decide +kernel) (by decide +kernel) (by decide +kernel) (by decide +kernel) rfl (by (try simp only [ev_sum, ev_nv_cat]); first | done | rfl) ?_
    intro x14 s13 hx14
    replace hx14 := ev_bl_rng hx14
    show ev_w _ _ _ _ _ [.int (Int32.ofInt x14)] _ _ _ _
    refine ev_r_jn (Q := fun K => ∀ (x15 : Int) (hx15 : ev_rng x15), ∀ (x16 : Int) (hx16 : ev_rng x16), ∀ (s23 : ev_St) (w17 : List (Nat × Value)), ev_lk w17 0 = some (.ref 621) → ev_lk w17 1 = some (.int (Int32.ofInt a0)) → ev_lk w17 2 = some (.int (Int32.ofInt x15)) → ev_lk w17 3 = some (.int (Int32.ofInt x16)) → ev_lk w17 4 = some (.int (Int32.ofInt x3)) → ev_w none (ev_Mof 278) d 49 w17 [] s23 (K x15 x16 s23) ev_eI ev_rng) ?_ ?_
    · intro x15 hx15 x16 hx16 s23 w17 e18 e19 e20 e21 e22
      refine ev_r_iinc (pc := 49) (k := 4) (c := 1) (x := x3) (by decide +kernel) (by decide +kernel) (by exact e22) (fun _ => rfl) ?_
      intro x24 hx24
      refine ev_r_goto (pc := 52) (o := (-44)) (t := 8) (by decide +kernel) (by decide +kernel) ?_
      exact hK8 x15 hx15 x16 hx16 x24 hx24 s23 _ (by exact (ev_l1 e18 (by decide) (by decide))) (by exact (ev_l1 e19 (by decide) (by decide))) (by exact (ev_l1 e20 (by decide) (by decide))) (by exact (ev_lk_st1 e21 (by decide) rfl)) (by exact ev_lk_st1_self)
    · intro K49 hK49
      refine ev_r_if (pc := 20) (q := .eq) (o := 29) (t := 49) (c := x14 = 0) (by decide +kernel) (ev_k_eq hx14 ev_rng0) (by decide +kernel) ?_ ?_
      · intro c25
        exact hK49 x1 hx1 x2 hx2 s13 _ (by exact e5) (by exact e6) (by exact e7) (by exact e8) (by exact e9)
      · intro c25
        refine ev_r_aload_n (pc := 23) (k := 0) (v := .ref 621) trivial (by decide +kernel) (by exact e5) ?_
        refine ev_r_getC (pc := 24) (y := 43) (ci := 13) (f := 14) (fin := 1) (k' := 633) (by decide +kernel) (by decide +kernel) (by exact ev_ob_621) rfl rfl ?_
        refine ev_r_iload_n (pc := 27) (k := 1) (v := Int32.ofInt a0) (by decide +kernel) (by exact e6) ?_
        refine ev_r_lald (pc := 28) ha0 (by decide +kernel) (by exact ev_ab_633) ?_
        intro y26
        refine ev_r_aload_n (pc := 29) (k := 0) (v := .ref 621) trivial (by decide +kernel) (by exact e5) ?_
        refine ev_r_getC (pc := 30) (y := 47) (ci := 13) (f := 15) (fin := 1) (k' := 634) (by decide +kernel) (by decide +kernel) (by exact ev_ob_621) rfl rfl ?_
        refine ev_r_iload_n (pc := 33) (k := 1) (v := Int32.ofInt a0) (by decide +kernel) (by exact e6) ?_
        refine ev_r_lald (pc := 34) ha0 (by decide +kernel) (by exact ev_ab_634) ?_
        intro y27
        refine ev_r_iload (pc := 35) (k := 4) (v := Int32.ofInt x3) (by decide +kernel) (by exact e9) ?_
        refine ev_r_stat (pc := 37) (y := 534) (kind := 2) (mi := 244) (na := 3) (as := [.long y26, .long y27, .int (Int32.ofInt x3)]) (rest := []) (encc := ev_oI) (Q := ev_bl) (fun x S1 h => jt_244 d (by omega) Q y26 y27 x3 hx3 s13 x S1 h) (Or.inl rfl) (by decide +kernel) (by decide +kernel) (by decide +kernel) (by decide +kernel) rfl (by (try simp only [ev_sum, ev_nv_cat]); first | done | rfl) ?_
        intro x29 s28 hx29
        replace hx29 := ev_bl_rng hx29
        show ev_w _ _ _ _ _ [.int (Int32.ofInt x29)] _ _ _ _
        refine ev_r_if (pc := 40) (q := .eq) (o := 9) (t := 49) (c := x29 = 0) (by decide +kernel) (ev_k_eq hx29 ev_rng0) (by decide +kernel) ?_ ?_
        · intro c30
          exact hK49 x1 hx1 x2 hx2 s28 _ (by exact e5) (by exact e6) (by exact e7) (by exact e8) (by exact e9)
        · intro c30
          refine ev_r_iload (pc := 43) (k := 4) (v := Int32.ofInt x3) (by decide +kernel) (by exact e9) ?_
          refine ev_r_istore_n (pc := 45) (k := 2) (by decide +kernel) (by decide +kernel) rfl ?_
          refine ev_r_iinc (pc := 46) (k := 3) (c := 1) (x := x2) (by decide +kernel) (by decide +kernel) (by exact (ev_l1 e8 (by decide) (by decide))) (fun _ => rfl) ?_
          intro x31 hx31
          exact hK49 x3 hx3 x31 hx31 s28 _ (by exact (ev_l1 (ev_l1 e5 (by decide) (by decide)) (by decide) (by decide))) (by exact (ev_l1 (ev_lk_st1 e6 (by decide) rfl) (by decide) (by decide))) (by exact (ev_lk_st1 ev_lk_st1_self (by decide) rfl)) (by exact ev_lk_st1_self) (by exact (ev_l1 (ev_l1 e9 (by decide) (by decide)) (by decide) (by decide)))
theorem jlt_278_8 (d : Nat) (hd : 3 ≤ d + 1) (Q : Nat) (a0 : Int) (ha0 : ev_rng a0)   : ∀ q : Nat, ∀ (x1 : Int) (hx1 : ev_rng x1), ∀ (x2 : Int) (hx2 : ev_rng x2), ∀ (x3 : Int) (hx3 : ev_rng x3), ∀ (s10 : ev_St) (w4 : List (Nat × Value)), ev_lk w4 0 = some (.ref 621) → ev_lk w4 1 = some (.int (Int32.ofInt a0)) → ev_lk w4 2 = some (.int (Int32.ofInt x1)) → ev_lk w4 3 = some (.int (Int32.ofInt x2)) → ev_lk w4 4 = some (.int (Int32.ofInt x3)) → ev_w none (ev_Mof 278) d 8 w4 [] s10 (jl_278_8 Q a0  q x1 x2 x3 s10) ev_eI ev_rng := by
  intro q
  induction q with
  | zero =>
    intro x1 hx1 x2 hx2 x3 hx3 s10 w4 e5 e6 e7 e8 e9
    exact ev_w_none
  | succ q ih => exact jbt_278_8 d hd Q a0 ha0   _ ih
/-- MendBenchModel.only(I)I -/
def jm_278 (Q : Nat) (a0 : Int) (S : ev_St) : Option ((Int) × ev_St) := jl_278_8 Q a0  Q ((-1)) 0 10 S
theorem jt_278 (d : Nat) (hd : 3 ≤ d) (Q : Nat) (a0 : Int) (ha0 : ev_rng a0) (S : ev_St) (x : Int) (S' : ev_St) (hJ : jm_278 Q a0 S = some (x, S')) : ev_Ref d 278 [.ref 621, .int (Int32.ofInt a0)] S (ev_eI x) S' (ev_rng x) := by
  obtain ⟨d, rfl⟩ : ∃ e, d = e + 1 := ⟨d - 1, by omega⟩
  refine ev_ref_of (P := ev_rng) (lv := [(0, .ref 621), (1, .int (Int32.ofInt a0))]) (by decide +kernel) (by (try simp only [ev_sum, ev_nv_cat]); first | done | rfl) (by (try simp only [lv_args, ev_nv_cat]); first | done | rfl) ?_ x S' hJ
  unfold jm_278
  refine ev_r_iconst (pc := 0) (k := -1) (by decide +kernel) ?_
  refine ev_r_istore_n (pc := 1) (k := 2) (by decide +kernel) (by decide +kernel) rfl ?_
  refine ev_r_iconst (pc := 2) (k := 0) (by decide +kernel) ?_
  refine ev_r_istore_n (pc := 3) (k := 3) (by decide +kernel) (by decide +kernel) rfl ?_
  refine ev_r_bipush (pc := 4) (k := 10) (by decide +kernel) (by decide +kernel) ?_
  refine ev_r_istore (pc := 6) (k := 4) (by decide +kernel) (by decide +kernel) rfl ?_
  exact jlt_278_8 d hd Q a0 ha0   Q ((-1)) (by decide) 0 (by decide) 10 (by decide) S _ (by exact (ev_l1 (ev_l1 (ev_l1 (by rfl) (by decide) (by decide)) (by decide) (by decide)) (by decide) (by decide))) (by exact (ev_l1 (ev_l1 (ev_lk_st1 (by rfl) (by decide) rfl) (by decide) (by decide)) (by decide) (by decide))) (by exact (ev_l1 (ev_lk_st1 ev_lk_st1_self (by decide) rfl) (by decide) (by decide))) (by exact (ev_lk_st1 ev_lk_st1_self (by decide) rfl)) (by exact ev_lk_st1_self)
def jb_279_60 (Q : Nat) (a1 : Int)  (K60 : Int → Int → Int → Int → Int → Int → Int → ev_St → Option ((Int) × ev_St)) (x7 : Int) (x8 : Int) (x9 : Int) (x10 : Int) (x11 : Int) (x12 : Int) (x13 : Int) (s24 : ev_St) : Option ((Int) × ev_St) := ev_jn (fun  (s35 : ev_St) => if x13 ≠ (-1) then (ev_ck (x7 + x13) fun x37 => ev_if ((0 : Int) ≤ x37 ∧ x37 < (ev_aln 625 : Int)) (ev_b (s35.1 625 (Int.toNat x37)) fun x38 => ev_jn (fun (x39 : Int) (x40 : Int) (s51 : ev_St) => ev_if ((0 : Int) ≤ x39 ∧ x39 < (ev_aln 625 : Int)) (ev_b (s51.1 625 (Int.toNat x39)) fun x52 => ev_bd (jm_267 Q x52 s51) fun x54 s53 => ev_jn (fun (x55 : Int) (x56 : Int) (s68 : ev_St) => ev_jn (fun (x69 : Int) (x70 : Int) (x71 : Int) (x72 : Int) (x73 : Int) (x74 : Int) (s85 : ev_St) => K60 x7 x69 x70 x71 x72 x73 x74 s85) fun K306 => if x56 = 0 then (ev_if ((0 : Int) ≤ x10 ∧ x10 < (ev_aln 661 : Int)) (ev_b (ev_pI s68 661 (Int.toNat x10) x55) fun s87 => ev_jn (fun (x89 : Int) (x88 : Int) (s100 : ev_St) => ev_ck (x88 + x89) fun x101 => ev_jn (fun (x102 : Int) (x103 : Int) (s113 : ev_St) => ev_jn (fun (x114 : Int) (x115 : Int) (s125 : ev_St) => ev_jn (fun (x126 : Int) (x127 : Int) (s137 : ev_St) => ev_if ((0 : Int) ≤ x39 ∧ x39 < (ev_aln 627 : Int)) (ev_b (s137.1 627 (Int.toNat x39)) fun x138 => K306 x127 x126 x102 x114 x12 x138 s137)) fun K295 => if x114 ≤ x8 then (K295 x115 x8 s125) else (K295 x115 x114 s125)) fun K279 => if x103 ≤ x8 then (K279 x103 x9 s113) else (ev_ck (x102 - x103) fun x141 => K279 x103 x141 s113)) fun K260 => if x55 ≠ (-1) then (ev_ck (x11 + 1) fun x143 => K260 x101 x143 s100) else (K260 x101 0 s100)) fun K243 => if x55 ≠ (-1) then (K243 1 x10 s87) else (K243 0 x10 s87))) else (ev_if ((0 : Int) ≤ x39 ∧ x39 < (ev_aln 627 : Int)) (ev_b (s68.1 627 (Int.toNat x39)) fun x145 => ev_if ((0 : Int) ≤ x12 ∧ x12 < (ev_aln 660 : Int)) (ev_b (ev_pI s68 660 (Int.toNat x12) x145) fun s146 => ev_ck (x12 + 1) fun x147 => ev_if ((0 : Int) ≤ x39 ∧ x39 < (ev_aln 626 : Int)) (ev_b (s146.1 626 (Int.toNat x39)) fun x148 => ev_ck (x7 + x148) fun x149 => ev_if ((0 : Int) ≤ x149 ∧ x149 < (ev_aln 626 : Int)) (ev_b (s146.1 626 (Int.toNat x149)) fun x150 => K306 x8 x9 x10 x11 x147 x150 s146)))))) fun K178 => ev_jn (fun (x151 : Int) (s163 : ev_St) => K178 x151 0 s163) fun K177 => if x54 = 0 then (K177 x40 s53) else (ev_if ((0 : Int) ≤ x39 ∧ x39 < (ev_aln 630 : Int)) (ev_b (s53.1 630 (Int.toNat x39)) fun x165 => if x165 ≠ (-1) then (K177 x40 s53) else (ev_if ((0 : Int) ≤ x39 ∧ x39 < (ev_aln 626 : Int)) (ev_b (s53.1 626 (Int.toNat x39)) fun x167 => ev_ck (x7 + x167) fun x168 => ev_if ((0 : Int) ≤ x168 ∧ x168 < (ev_aln 627 : Int)) (ev_b (s53.1 627 (Int.toNat x168)) fun x169 => if x169 ≠ (-1) then (K177 x40 s53) else (K178 x40 1 s53)))))))) fun K129 => ev_jn (fun (x171 : Int) (s182 : ev_St) => K129 x171 ((-1)) s182) fun K128 => if x38 ≠ 0 then (K128 x37 s35) else (ev_if ((0 : Int) ≤ x37 ∧ x37 < (ev_aln 630 : Int)) (ev_b (s35.1 630 (Int.toNat x37)) fun x184 => if x184 ≠ (-1) then (K128 x37 s35) else (ev_bd (jm_278 Q x37 s35) fun x187 s186 => K129 x37 x187 s186))))) else (ev_ck (x12 + (-1)) fun x188 => ev_if ((0 : Int) ≤ x188 ∧ x188 < (ev_aln 660 : Int)) (ev_b (s35.1 660 (Int.toNat x188)) fun x189 => K60 x7 x8 x9 x10 x11 x188 x189 s35))) fun K71 => if x13 ≠ (-1) then (K71  s24) else (if x12 ≤ 0 then (if x8 ≤ a1 then (some ((-1), s24)) else (ev_ck (x9 + a1) fun x193 => ev_if ((0 : Int) ≤ x193 ∧ x193 < (ev_aln 661 : Int)) (ev_b (s24.1 661 (Int.toNat x193)) fun x194 => some (x194, s24)))) else (K71  s24))
def jl_279_60 (Q : Nat) (a1 : Int)  : Nat → Int → Int → Int → Int → Int → Int → Int → ev_St → Option ((Int) × ev_St)
  | 0 => fun _ _ _ _ _ _ _ _ => none
  | q + 1 => jb_279_60 Q a1  (jl_279_60 Q a1  q)
theorem jbt_279_60 (d : Nat) (hd : 4 ≤ d + 1) (Q : Nat) (a1 : Int) (ha1 : ev_rng a1)   (K60 : Int → Int → Int → Int → Int → Int → Int → ev_St → Option ((Int) × ev_St)) (hK60 : ∀ (x7 : Int) (hx7 : ev_rng x7), ∀ (x8 : Int) (hx8 : ev_rng x8), ∀ (x9 : Int) (hx9 : ev_rng x9), ∀ (x10 : Int) (hx10 : ev_rng x10), ∀ (x11 : Int) (hx11 : ev_rng x11), ∀ (x12 : Int) (hx12 : ev_rng x12), ∀ (x13 : Int) (hx13 : ev_rng x13), ∀ (s24 : ev_St) (w14 : List (Nat × Value)), ev_lk w14 0 = some (.ref 621) → ev_lk w14 2 = some (.int (Int32.ofInt a1)) → ev_lk w14 3 = some (.int (Int32.ofInt x7)) → ev_lk w14 4 = some (.int (Int32.ofInt x8)) → ev_lk w14 5 = some (.int (Int32.ofInt x9)) → ev_lk w14 6 = some (.int (Int32.ofInt x10)) → ev_lk w14 7 = some (.int (Int32.ofInt x11)) → ev_lk w14 8 = some (.int (Int32.ofInt x12)) → ev_lk w14 9 = some (.int (Int32.ofInt x13)) → ev_w none (ev_Mof 279) d 60 w14 [] s24 (K60 x7 x8 x9 x10 x11 x12 x13 s24) ev_eI ev_rng) : ∀ (x7 : Int) (hx7 : ev_rng x7), ∀ (x8 : Int) (hx8 : ev_rng x8), ∀ (x9 : Int) (hx9 : ev_rng x9), ∀ (x10 : Int) (hx10 : ev_rng x10), ∀ (x11 : Int) (hx11 : ev_rng x11), ∀ (x12 : Int) (hx12 : ev_rng x12), ∀ (x13 : Int) (hx13 : ev_rng x13), ∀ (s24 : ev_St) (w14 : List (Nat × Value)), ev_lk w14 0 = some (.ref 621) → ev_lk w14 2 = some (.int (Int32.ofInt a1)) → ev_lk w14 3 = some (.int (Int32.ofInt x7)) → ev_lk w14 4 = some (.int (Int32.ofInt x8)) → ev_lk w14 5 = some (.int (Int32.ofInt x9)) → ev_lk w14 6 = some (.int (Int32.ofInt x10)) → ev_lk w14 7 = some (.int (Int32.ofInt x11)) → ev_lk w14 8 = some (.int (Int32.ofInt x12)) → ev_lk w14 9 = some (.int (Int32.ofInt x13)) → ev_w none (ev_Mof 279) d 60 w14 [] s24 (jb_279_60 Q a1  K60 x7 x8 x9 x10 x11 x12 x13 s24) ev_eI ev_rng := by
  intro x7 hx7 x8 hx8 x9 hx9 x10 hx10 x11 hx11 x12 hx12 x13 hx13 s24 w14 e15 e16 e17 e18 e19 e20 e21 e22 e23
  unfold jb_279_60
  refine ev_r_iload (pc := 60) (k := 9) (v := Int32.ofInt x13) (by decide +kernel) (by exact e23) ?_
  refine ev_r_iconst (pc := 62) (k := -1) (by decide +kernel) ?_
  refine ev_r_jn (Q := fun K => ∀ (s35 : ev_St) (w25 : List (Nat × Value)), ev_lk w25 0 = some (.ref 621) → ev_lk w25 2 = some (.int (Int32.ofInt a1)) → ev_lk w25 3 = some (.int (Int32.ofInt x7)) → ev_lk w25 4 = some (.int (Int32.ofInt x8)) → ev_lk w25 5 = some (.int (Int32.ofInt x9)) → ev_lk w25 6 = some (.int (Int32.ofInt x10)) → ev_lk w25 7 = some (.int (Int32.ofInt x11)) → ev_lk w25 8 = some (.int (Int32.ofInt x12)) → ev_lk w25 9 = some (.int (Int32.ofInt x13)) → ev_w none (ev_Mof 279) d 71 w25 [] s35 (K  s35) ev_eI ev_rng) ?_ ?_
  · intro  s35 w25 e26 e27 e28 e29 e30 e31 e32 e33 e34
    refine ev_r_iload (pc := 71) (k := 9) (v := Int32.ofInt x13) (by decide +kernel) (by exact e34) ?_
    refine ev_r_iconst (pc := 73) (k := -1) (by decide +kernel) ?_
    refine ev_r_icmp (pc := 74) (q := .ne) (o := 18) (t := 92) (c := x13 ≠ (-1)) (by decide +kernel) (ev_k_ne hx13 (by decide)) (by decide +kernel) ?_ ?_
    · intro c36
      refine ev_r_iload_n (pc := 92) (k := 3) (v := Int32.ofInt x7) (by decide +kernel) (by exact e28) ?_
      refine ev_r_iload (pc := 93) (k := 9) (v := Int32.ofInt x13) (by decide +kernel) (by exact e34) ?_
      refine ev_r_iadd (pc := 95) (by decide +kernel) ?_
      intro x37 hx37
      refine ev_r_istore (pc := 96) (k := 10) (by decide +kernel) (by decide +kernel) rfl ?_
      refine ev_r_aload_n (pc := 98) (k := 0) (v := .ref 621) trivial (by decide +kernel) (by exact (ev_l1 e26 (by decide) (by decide))) ?_
      refine ev_r_getC (pc := 99) (y := 19) (ci := 13) (f := 6) (fin := 1) (k' := 625) (by decide +kernel) (by decide +kernel) (by exact ev_ob_621) rfl rfl ?_
      refine ev_r_iload (pc := 102) (k := 10) (v := Int32.ofInt x37) (by decide +kernel) (by exact ev_lk_st1_self) ?_
      refine ev_r_iald (pc := 104) hx37 (by decide +kernel) (by exact ev_ab_625) ?_
      intro x38 hx38
      refine ev_r_jn (Q := fun K => ∀ (x39 : Int) (hx39 : ev_rng x39), ∀ (x40 : Int) (hx40 : ev_rng x40), ∀ (s51 : ev_St) (w41 : List (Nat × Value)), ev_lk w41 0 = some (.ref 621) → ev_lk w41 2 = some (.int (Int32.ofInt a1)) → ev_lk w41 3 = some (.int (Int32.ofInt x7)) → ev_lk w41 4 = some (.int (Int32.ofInt x8)) → ev_lk w41 5 = some (.int (Int32.ofInt x9)) → ev_lk w41 6 = some (.int (Int32.ofInt x10)) → ev_lk w41 7 = some (.int (Int32.ofInt x11)) → ev_lk w41 8 = some (.int (Int32.ofInt x12)) → ev_lk w41 10 = some (.int (Int32.ofInt x39)) → ev_w none (ev_Mof 279) d 129 w41 [.int (Int32.ofInt x40)] s51 (K x39 x40 s51) ev_eI ev_rng) ?_ ?_
      · intro x39 hx39 x40 hx40 s51 w41 e42 e43 e44 e45 e46 e47 e48 e49 e50
        refine ev_r_istore (pc := 129) (k := 11) (by decide +kernel) (by decide +kernel) rfl ?_
        refine ev_r_aload_n (pc := 131) (k := 0) (v := .ref 621) trivial (by decide +kernel) (by exact (ev_l1 e42 (by decide) (by decide))) ?_
        refine ev_r_getC (pc := 132) (y := 19) (ci := 13) (f := 6) (fin := 1) (k' := 625) (by decide +kernel) (by decide +kernel) (by exact ev_ob_621) rfl rfl ?_
        refine ev_r_iload (pc := 135) (k := 10) (v := Int32.ofInt x39) (by decide +kernel) (by exact (ev_lk_st1 e50 (by decide) rfl)) ?_
        refine ev_r_iald (pc := 137) hx39 (by decide +kernel) (by exact ev_ab_625) ?_
        intro x52 hx52
        refine ev_r_stat (pc := 138) (y := 504) (kind := 2) (mi := 267) (na := 1) (as := [.int (Int32.ofInt x52)]) (rest := []) (encc := ev_oI) (Q := ev_bl) (fun x S1 h => jt_267 d (by omega) Q x52 hx52 s51 x S1 h) (Or.inl rfl) (by decide +kernel) (by decide +kernel) (by decide +kernel) (by decide +kernel) rfl (by (try simp only [ev_sum, ev_nv_cat]); first | done | rfl) ?_
        intro x54 s53 hx54
        replace hx54 := ev_bl_rng hx54
        show ev_w _ _ _ _ _ [.int (Int32.ofInt x54)] _ _ _ _
        refine ev_r_jn (Q := fun K => ∀ (x55 : Int) (hx55 : ev_rng x55), ∀ (x56 : Int) (hx56 : ev_rng x56), ∀ (s68 : ev_St) (w57 : List (Nat × Value)), ev_lk w57 0 = some (.ref 621) → ev_lk w57 2 = some (.int (Int32.ofInt a1)) → ev_lk w57 3 = some (.int (Int32.ofInt x7)) → ev_lk w57 4 = some (.int (Int32.ofInt x8)) → ev_lk w57 5 = some (.int (Int32.ofInt x9)) → ev_lk w57 6 = some (.int (Int32.ofInt x10)) → ev_lk w57 7 = some (.int (Int32.ofInt x11)) → ev_lk w57 8 = some (.int (Int32.ofInt x12)) → ev_lk w57 10 = some (.int (Int32.ofInt x39)) → ev_lk w57 11 = some (.int (Int32.ofInt x55)) → ev_w none (ev_Mof 279) d 178 w57 [.int (Int32.ofInt x56)] s68 (K x55 x56 s68) ev_eI ev_rng) ?_ ?_
        · intro x55 hx55 x56 hx56 s68 w57 e58 e59 e60 e61 e62 e63 e64 e65 e66 e67
          refine ev_r_istore (pc := 178) (k := 12) (by decide +kernel) (by decide +kernel) rfl ?_
          refine ev_r_iload (pc := 180) (k := 12) (v := Int32.ofInt x56) (by decide +kernel) (by exact ev_lk_st1_self) ?_
          refine ev_r_jn (Q := fun K => ∀ (x69 : Int) (hx69 : ev_rng x69), ∀ (x70 : Int) (hx70 : ev_rng x70), ∀ (x71 : Int) (hx71 : ev_rng x71), ∀ (x72 : Int) (hx72 : ev_rng x72), ∀ (x73 : Int) (hx73 : ev_rng x73), ∀ (x74 : Int) (hx74 : ev_rng x74), ∀ (s85 : ev_St) (w75 : List (Nat × Value)), ev_lk w75 0 = some (.ref 621) → ev_lk w75 2 = some (.int (Int32.ofInt a1)) → ev_lk w75 3 = some (.int (Int32.ofInt x7)) → ev_lk w75 4 = some (.int (Int32.ofInt x69)) → ev_lk w75 5 = some (.int (Int32.ofInt x70)) → ev_lk w75 6 = some (.int (Int32.ofInt x71)) → ev_lk w75 7 = some (.int (Int32.ofInt x72)) → ev_lk w75 8 = some (.int (Int32.ofInt x73)) → ev_lk w75 9 = some (.int (Int32.ofInt x74)) → ev_w none (ev_Mof 279) d 306 w75 [] s85 (K x69 x70 x71 x72 x73 x74 s85) ev_eI ev_rng) ?_ ?_
          · intro x69 hx69 x70 hx70 x71 hx71 x72 hx72 x73 hx73 x74 hx74 s85 w75 e76 e77 e78 e79 e80 e81 e82 e83 e84
            refine ev_r_goto (pc := 306) (o := (-246)) (t := 60) (by decide +kernel) (by decide +kernel) ?_
            exact hK60 x7 hx7 x69 hx69 x70 hx70 x71 hx71 x72 hx72 x73 hx73 x74 hx74 s85 _ (by exact e76) (by exact e77) (by exact e78) (by exact e79) (by exact e80) (by exact e81) (by exact e82) (by exact e83) (by exact e84)
          · intro K306 hK306
            refine ev_r_if (pc := 182) (q := .eq) (o := 39) (t := 221) (c := x56 = 0) (by decide +kernel) (ev_k_eq hx56 ev_rng0) (by decide +kernel) ?_ ?_
            · intro c86
              refine ev_r_aload_n (pc := 221) (k := 0) (v := .ref 621) trivial (by decide +kernel) (by exact (ev_l1 e58 (by decide) (by decide))) ?_
              refine ev_r_getC (pc := 222) (y := 129) (ci := 13) (f := 53) (fin := 1) (k' := 661) (by decide +kernel) (by decide +kernel) (by exact ev_ob_621) rfl rfl ?_
              refine ev_r_iload (pc := 225) (k := 6) (v := Int32.ofInt x10) (by decide +kernel) (by exact (ev_l1 e63 (by decide) (by decide))) ?_
              refine ev_r_iload (pc := 227) (k := 11) (v := Int32.ofInt x55) (by decide +kernel) (by exact (ev_lk_st1 e67 (by decide) rfl)) ?_
              refine ev_r_iast (pc := 229) hx55 hx10 (by decide +kernel) (by exact ev_ab_661) ?_
              intro s87
              refine ev_r_iload (pc := 230) (k := 6) (v := Int32.ofInt x10) (by decide +kernel) (by exact (ev_l1 e63 (by decide) (by decide))) ?_
              refine ev_r_iload (pc := 232) (k := 11) (v := Int32.ofInt x55) (by decide +kernel) (by exact (ev_lk_st1 e67 (by decide) rfl)) ?_
              refine ev_r_iconst (pc := 234) (k := -1) (by decide +kernel) ?_
              refine ev_r_jn (Q := fun K => ∀ (x89 : Int) (hx89 : ev_rng x89), ∀ (x88 : Int) (hx88 : ev_rng x88), ∀ (s100 : ev_St) (w90 : List (Nat × Value)), ev_lk w90 0 = some (.ref 621) → ev_lk w90 2 = some (.int (Int32.ofInt a1)) → ev_lk w90 3 = some (.int (Int32.ofInt x7)) → ev_lk w90 4 = some (.int (Int32.ofInt x8)) → ev_lk w90 5 = some (.int (Int32.ofInt x9)) → ev_lk w90 7 = some (.int (Int32.ofInt x11)) → ev_lk w90 8 = some (.int (Int32.ofInt x12)) → ev_lk w90 10 = some (.int (Int32.ofInt x39)) → ev_lk w90 11 = some (.int (Int32.ofInt x55)) → ev_w none (ev_Mof 279) d 243 w90 [.int (Int32.ofInt x89), .int (Int32.ofInt x88)] s100 (K x89 x88 s100) ev_eI ev_rng) ?_ ?_
              · intro x89 hx89 x88 hx88 s100 w90 e91 e92 e93 e94 e95 e96 e97 e98 e99
                refine ev_r_iadd (pc := 243) (by decide +kernel) ?_
                intro x101 hx101
                refine ev_r_istore (pc := 244) (k := 6) (by decide +kernel) (by decide +kernel) rfl ?_
                refine ev_r_iload (pc := 246) (k := 11) (v := Int32.ofInt x55) (by decide +kernel) (by exact (ev_l1 e99 (by decide) (by decide))) ?_
                refine ev_r_iconst (pc := 248) (k := -1) (by decide +kernel) ?_
                refine ev_r_jn (Q := fun K => ∀ (x102 : Int) (hx102 : ev_rng x102), ∀ (x103 : Int) (hx103 : ev_rng x103), ∀ (s113 : ev_St) (w104 : List (Nat × Value)), ev_lk w104 0 = some (.ref 621) → ev_lk w104 2 = some (.int (Int32.ofInt a1)) → ev_lk w104 3 = some (.int (Int32.ofInt x7)) → ev_lk w104 4 = some (.int (Int32.ofInt x8)) → ev_lk w104 5 = some (.int (Int32.ofInt x9)) → ev_lk w104 6 = some (.int (Int32.ofInt x102)) → ev_lk w104 8 = some (.int (Int32.ofInt x12)) → ev_lk w104 10 = some (.int (Int32.ofInt x39)) → ev_w none (ev_Mof 279) d 260 w104 [.int (Int32.ofInt x103)] s113 (K x102 x103 s113) ev_eI ev_rng) ?_ ?_
                · intro x102 hx102 x103 hx103 s113 w104 e105 e106 e107 e108 e109 e110 e111 e112
                  refine ev_r_istore (pc := 260) (k := 7) (by decide +kernel) (by decide +kernel) rfl ?_
                  refine ev_r_iload (pc := 262) (k := 7) (v := Int32.ofInt x103) (by decide +kernel) (by exact ev_lk_st1_self) ?_
                  refine ev_r_iload (pc := 264) (k := 4) (v := Int32.ofInt x8) (by decide +kernel) (by exact (ev_l1 e108 (by decide) (by decide))) ?_
                  refine ev_r_jn (Q := fun K => ∀ (x114 : Int) (hx114 : ev_rng x114), ∀ (x115 : Int) (hx115 : ev_rng x115), ∀ (s125 : ev_St) (w116 : List (Nat × Value)), ev_lk w116 0 = some (.ref 621) → ev_lk w116 2 = some (.int (Int32.ofInt a1)) → ev_lk w116 3 = some (.int (Int32.ofInt x7)) → ev_lk w116 4 = some (.int (Int32.ofInt x8)) → ev_lk w116 6 = some (.int (Int32.ofInt x102)) → ev_lk w116 7 = some (.int (Int32.ofInt x114)) → ev_lk w116 8 = some (.int (Int32.ofInt x12)) → ev_lk w116 10 = some (.int (Int32.ofInt x39)) → ev_w none (ev_Mof 279) d 279 w116 [.int (Int32.ofInt x115)] s125 (K x114 x115 s125) ev_eI ev_rng) ?_ ?_
                  · intro x114 hx114 x115 hx115 s125 w116 e117 e118 e119 e120 e121 e122 e123 e124
                    refine ev_r_istore (pc := 279) (k := 5) (by decide +kernel) (by decide +kernel) rfl ?_
                    refine ev_r_iload (pc := 281) (k := 7) (v := Int32.ofInt x114) (by decide +kernel) (by exact (ev_l1 e122 (by decide) (by decide))) ?_
                    refine ev_r_iload (pc := 283) (k := 4) (v := Int32.ofInt x8) (by decide +kernel) (by exact (ev_lk_st1 e120 (by decide) rfl)) ?_
                    refine ev_r_jn (Q := fun K => ∀ (x126 : Int) (hx126 : ev_rng x126), ∀ (x127 : Int) (hx127 : ev_rng x127), ∀ (s137 : ev_St) (w128 : List (Nat × Value)), ev_lk w128 0 = some (.ref 621) → ev_lk w128 2 = some (.int (Int32.ofInt a1)) → ev_lk w128 3 = some (.int (Int32.ofInt x7)) → ev_lk w128 5 = some (.int (Int32.ofInt x126)) → ev_lk w128 6 = some (.int (Int32.ofInt x102)) → ev_lk w128 7 = some (.int (Int32.ofInt x114)) → ev_lk w128 8 = some (.int (Int32.ofInt x12)) → ev_lk w128 10 = some (.int (Int32.ofInt x39)) → ev_w none (ev_Mof 279) d 295 w128 [.int (Int32.ofInt x127)] s137 (K x126 x127 s137) ev_eI ev_rng) ?_ ?_
                    · intro x126 hx126 x127 hx127 s137 w128 e129 e130 e131 e132 e133 e134 e135 e136
                      refine ev_r_istore (pc := 295) (k := 4) (by decide +kernel) (by decide +kernel) rfl ?_
                      refine ev_r_aload_n (pc := 297) (k := 0) (v := .ref 621) trivial (by decide +kernel) (by exact (ev_l1 e129 (by decide) (by decide))) ?_
                      refine ev_r_getC (pc := 298) (y := 25) (ci := 13) (f := 8) (fin := 1) (k' := 627) (by decide +kernel) (by decide +kernel) (by exact ev_ob_621) rfl rfl ?_
                      refine ev_r_iload (pc := 301) (k := 10) (v := Int32.ofInt x39) (by decide +kernel) (by exact (ev_l1 e136 (by decide) (by decide))) ?_
                      refine ev_r_iald (pc := 303) hx39 (by decide +kernel) (by exact ev_ab_627) ?_
                      intro x138 hx138
                      refine ev_r_istore (pc := 304) (k := 9) (by decide +kernel) (by decide +kernel) rfl ?_
                      exact hK306 x127 hx127 x126 hx126 x102 hx102 x114 hx114 x12 hx12 x138 hx138 s137 _ (by exact (ev_l1 (ev_l1 e129 (by decide) (by decide)) (by decide) (by decide))) (by exact (ev_l1 (ev_l1 e130 (by decide) (by decide)) (by decide) (by decide))) (by exact (ev_l1 (ev_lk_st1 e131 (by decide) rfl) (by decide) (by decide))) (by exact (ev_l1 ev_lk_st1_self (by decide) (by decide))) (by exact (ev_l1 (ev_l1 e132 (by decide) (by decide)) (by decide) (by decide))) (by exact (ev_l1 (ev_l1 e133 (by decide) (by decide)) (by decide) (by decide))) (by exact (ev_l1 (ev_l1 e134 (by decide) (by decide)) (by decide) (by decide))) (by exact (ev_lk_st1 (ev_l1 e135 (by decide) (by decide)) (by decide) rfl)) (by exact ev_lk_st1_self)
                    · intro K295 hK295
                      refine ev_r_icmp (pc := 285) (q := .le) (o := 8) (t := 293) (c := x114 ≤ x8) (by decide +kernel) (ev_k_le hx114 hx8) (by decide +kernel) ?_ ?_
                      · intro c139
                        refine ev_r_iload (pc := 293) (k := 4) (v := Int32.ofInt x8) (by decide +kernel) (by exact (ev_lk_st1 e120 (by decide) rfl)) ?_
                        exact hK295 x115 hx115 x8 hx8 s125 _ (by exact (ev_l1 e117 (by decide) (by decide))) (by exact (ev_l1 e118 (by decide) (by decide))) (by exact (ev_l1 e119 (by decide) (by decide))) (by exact ev_lk_st1_self) (by exact (ev_l1 e121 (by decide) (by decide))) (by exact (ev_l1 e122 (by decide) (by decide))) (by exact (ev_l1 e123 (by decide) (by decide))) (by exact (ev_l1 e124 (by decide) (by decide)))
                      · intro c139
                        refine ev_r_iload (pc := 288) (k := 7) (v := Int32.ofInt x114) (by decide +kernel) (by exact (ev_l1 e122 (by decide) (by decide))) ?_
                        refine ev_r_goto (pc := 290) (o := 5) (t := 295) (by decide +kernel) (by decide +kernel) ?_
                        exact hK295 x115 hx115 x114 hx114 s125 _ (by exact (ev_l1 e117 (by decide) (by decide))) (by exact (ev_l1 e118 (by decide) (by decide))) (by exact (ev_l1 e119 (by decide) (by decide))) (by exact ev_lk_st1_self) (by exact (ev_l1 e121 (by decide) (by decide))) (by exact (ev_l1 e122 (by decide) (by decide))) (by exact (ev_l1 e123 (by decide) (by decide))) (by exact (ev_l1 e124 (by decide) (by decide)))
                  · intro K279 hK279
                    refine ev_r_icmp (pc := 266) (q := .le) (o := 11) (t := 277) (c := x103 ≤ x8) (by decide +kernel) (ev_k_le hx103 hx8) (by decide +kernel) ?_ ?_
                    · intro c140
                      refine ev_r_iload (pc := 277) (k := 5) (v := Int32.ofInt x9) (by decide +kernel) (by exact (ev_l1 e109 (by decide) (by decide))) ?_
                      exact hK279 x103 hx103 x9 hx9 s113 _ (by exact (ev_l1 e105 (by decide) (by decide))) (by exact (ev_l1 e106 (by decide) (by decide))) (by exact (ev_l1 e107 (by decide) (by decide))) (by exact (ev_l1 e108 (by decide) (by decide))) (by exact (ev_lk_st1 e110 (by decide) rfl)) (by exact ev_lk_st1_self) (by exact (ev_l1 e111 (by decide) (by decide))) (by exact (ev_l1 e112 (by decide) (by decide)))
                    · intro c140
                      refine ev_r_iload (pc := 269) (k := 6) (v := Int32.ofInt x102) (by decide +kernel) (by exact (ev_lk_st1 e110 (by decide) rfl)) ?_
                      refine ev_r_iload (pc := 271) (k := 7) (v := Int32.ofInt x103) (by decide +kernel) (by exact ev_lk_st1_self) ?_
                      refine ev_r_isub (pc := 273) (by decide +kernel) ?_
                      intro x141 hx141
                      refine ev_r_goto (pc := 274) (o := 5) (t := 279) (by decide +kernel) (by decide +kernel) ?_
                      exact hK279 x103 hx103 x141 hx141 s113 _ (by exact (ev_l1 e105 (by decide) (by decide))) (by exact (ev_l1 e106 (by decide) (by decide))) (by exact (ev_l1 e107 (by decide) (by decide))) (by exact (ev_l1 e108 (by decide) (by decide))) (by exact (ev_lk_st1 e110 (by decide) rfl)) (by exact ev_lk_st1_self) (by exact (ev_l1 e111 (by decide) (by decide))) (by exact (ev_l1 e112 (by decide) (by decide)))
                · intro K260 hK260
                  refine ev_r_icmp (pc := 249) (q := .ne) (o := 7) (t := 256) (c := x55 ≠ (-1)) (by decide +kernel) (ev_k_ne hx55 (by decide)) (by decide +kernel) ?_ ?_
                  · intro c142
                    refine ev_r_iload (pc := 256) (k := 7) (v := Int32.ofInt x11) (by decide +kernel) (by exact (ev_l1 e96 (by decide) (by decide))) ?_
                    refine ev_r_iconst (pc := 258) (k := 1) (by decide +kernel) ?_
                    refine ev_r_iadd (pc := 259) (by decide +kernel) ?_
                    intro x143 hx143
                    exact hK260 x101 hx101 x143 hx143 s100 _ (by exact (ev_l1 e91 (by decide) (by decide))) (by exact (ev_l1 e92 (by decide) (by decide))) (by exact (ev_l1 e93 (by decide) (by decide))) (by exact (ev_l1 e94 (by decide) (by decide))) (by exact (ev_lk_st1 e95 (by decide) rfl)) (by exact ev_lk_st1_self) (by exact (ev_l1 e97 (by decide) (by decide))) (by exact (ev_l1 e98 (by decide) (by decide)))
                  · intro c142
                    refine ev_r_iconst (pc := 252) (k := 0) (by decide +kernel) ?_
                    refine ev_r_goto (pc := 253) (o := 7) (t := 260) (by decide +kernel) (by decide +kernel) ?_
                    exact hK260 x101 hx101 0 (by decide) s100 _ (by exact (ev_l1 e91 (by decide) (by decide))) (by exact (ev_l1 e92 (by decide) (by decide))) (by exact (ev_l1 e93 (by decide) (by decide))) (by exact (ev_l1 e94 (by decide) (by decide))) (by exact (ev_lk_st1 e95 (by decide) rfl)) (by exact ev_lk_st1_self) (by exact (ev_l1 e97 (by decide) (by decide))) (by exact (ev_l1 e98 (by decide) (by decide)))
              · intro K243 hK243
                refine ev_r_icmp (pc := 235) (q := .ne) (o := 7) (t := 242) (c := x55 ≠ (-1)) (by decide +kernel) (ev_k_ne hx55 (by decide)) (by decide +kernel) ?_ ?_
                · intro c144
                  refine ev_r_iconst (pc := 242) (k := 1) (by decide +kernel) ?_
                  exact hK243 1 (by decide) x10 hx10 s87 _ (by exact (ev_l1 e58 (by decide) (by decide))) (by exact (ev_l1 e59 (by decide) (by decide))) (by exact (ev_l1 e60 (by decide) (by decide))) (by exact (ev_l1 e61 (by decide) (by decide))) (by exact (ev_l1 e62 (by decide) (by decide))) (by exact (ev_l1 e64 (by decide) (by decide))) (by exact (ev_l1 e65 (by decide) (by decide))) (by exact (ev_l1 e66 (by decide) (by decide))) (by exact (ev_lk_st1 e67 (by decide) rfl))
                · intro c144
                  refine ev_r_iconst (pc := 238) (k := 0) (by decide +kernel) ?_
                  refine ev_r_goto (pc := 239) (o := 4) (t := 243) (by decide +kernel) (by decide +kernel) ?_
                  exact hK243 0 (by decide) x10 hx10 s87 _ (by exact (ev_l1 e58 (by decide) (by decide))) (by exact (ev_l1 e59 (by decide) (by decide))) (by exact (ev_l1 e60 (by decide) (by decide))) (by exact (ev_l1 e61 (by decide) (by decide))) (by exact (ev_l1 e62 (by decide) (by decide))) (by exact (ev_l1 e64 (by decide) (by decide))) (by exact (ev_l1 e65 (by decide) (by decide))) (by exact (ev_l1 e66 (by decide) (by decide))) (by exact (ev_lk_st1 e67 (by decide) rfl))
            · intro c86
              refine ev_r_aload_n (pc := 185) (k := 0) (v := .ref 621) trivial (by decide +kernel) (by exact (ev_l1 e58 (by decide) (by decide))) ?_
              refine ev_r_getC (pc := 186) (y := 126) (ci := 13) (f := 52) (fin := 1) (k' := 660) (by decide +kernel) (by decide +kernel) (by exact ev_ob_621) rfl rfl ?_
              refine ev_r_iload (pc := 189) (k := 8) (v := Int32.ofInt x12) (by decide +kernel) (by exact (ev_l1 e65 (by decide) (by decide))) ?_
              refine ev_r_aload_n (pc := 191) (k := 0) (v := .ref 621) trivial (by decide +kernel) (by exact (ev_l1 e58 (by decide) (by decide))) ?_
              refine ev_r_getC (pc := 192) (y := 25) (ci := 13) (f := 8) (fin := 1) (k' := 627) (by decide +kernel) (by decide +kernel) (by exact ev_ob_621) rfl rfl ?_
              refine ev_r_iload (pc := 195) (k := 10) (v := Int32.ofInt x39) (by decide +kernel) (by exact (ev_l1 e66 (by decide) (by decide))) ?_
              refine ev_r_iald (pc := 197) hx39 (by decide +kernel) (by exact ev_ab_627) ?_
              intro x145 hx145
              refine ev_r_iast (pc := 198) hx145 hx12 (by decide +kernel) (by exact ev_ab_660) ?_
              intro s146
              refine ev_r_iinc (pc := 199) (k := 8) (c := 1) (x := x12) (by decide +kernel) (by decide +kernel) (by exact (ev_l1 e65 (by decide) (by decide))) (fun _ => rfl) ?_
              intro x147 hx147
              refine ev_r_aload_n (pc := 202) (k := 0) (v := .ref 621) trivial (by decide +kernel) (by exact (ev_l1 (ev_l1 e58 (by decide) (by decide)) (by decide) (by decide))) ?_
              refine ev_r_getC (pc := 203) (y := 22) (ci := 13) (f := 7) (fin := 1) (k' := 626) (by decide +kernel) (by decide +kernel) (by exact ev_ob_621) rfl rfl ?_
              refine ev_r_iload_n (pc := 206) (k := 3) (v := Int32.ofInt x7) (by decide +kernel) (by exact (ev_l1 (ev_l1 e60 (by decide) (by decide)) (by decide) (by decide))) ?_
              refine ev_r_aload_n (pc := 207) (k := 0) (v := .ref 621) trivial (by decide +kernel) (by exact (ev_l1 (ev_l1 e58 (by decide) (by decide)) (by decide) (by decide))) ?_
              refine ev_r_getC (pc := 208) (y := 22) (ci := 13) (f := 7) (fin := 1) (k' := 626) (by decide +kernel) (by decide +kernel) (by exact ev_ob_621) rfl rfl ?_
              refine ev_r_iload (pc := 211) (k := 10) (v := Int32.ofInt x39) (by decide +kernel) (by exact (ev_l1 (ev_l1 e66 (by decide) (by decide)) (by decide) (by decide))) ?_
              refine ev_r_iald (pc := 213) hx39 (by decide +kernel) (by exact ev_ab_626) ?_
              intro x148 hx148
              refine ev_r_iadd (pc := 214) (by decide +kernel) ?_
              intro x149 hx149
              refine ev_r_iald (pc := 215) hx149 (by decide +kernel) (by exact ev_ab_626) ?_
              intro x150 hx150
              refine ev_r_istore (pc := 216) (k := 9) (by decide +kernel) (by decide +kernel) rfl ?_
              refine ev_r_goto (pc := 218) (o := 88) (t := 306) (by decide +kernel) (by decide +kernel) ?_
              exact hK306 x8 hx8 x9 hx9 x10 hx10 x11 hx11 x147 hx147 x150 hx150 s146 _ (by exact (ev_l1 (ev_l1 (ev_l1 e58 (by decide) (by decide)) (by decide) (by decide)) (by decide) (by decide))) (by exact (ev_l1 (ev_l1 (ev_l1 e59 (by decide) (by decide)) (by decide) (by decide)) (by decide) (by decide))) (by exact (ev_l1 (ev_l1 (ev_l1 e60 (by decide) (by decide)) (by decide) (by decide)) (by decide) (by decide))) (by exact (ev_l1 (ev_l1 (ev_l1 e61 (by decide) (by decide)) (by decide) (by decide)) (by decide) (by decide))) (by exact (ev_l1 (ev_l1 (ev_l1 e62 (by decide) (by decide)) (by decide) (by decide)) (by decide) (by decide))) (by exact (ev_l1 (ev_l1 (ev_l1 e63 (by decide) (by decide)) (by decide) (by decide)) (by decide) (by decide))) (by exact (ev_l1 (ev_lk_st1 (ev_l1 e64 (by decide) (by decide)) (by decide) rfl) (by decide) (by decide))) (by exact (ev_lk_st1 ev_lk_st1_self (by decide) rfl)) (by exact ev_lk_st1_self)
        · intro K178 hK178
          refine ev_r_jn (Q := fun K => ∀ (x151 : Int) (hx151 : ev_rng x151), ∀ (s163 : ev_St) (w152 : List (Nat × Value)), ev_lk w152 0 = some (.ref 621) → ev_lk w152 2 = some (.int (Int32.ofInt a1)) → ev_lk w152 3 = some (.int (Int32.ofInt x7)) → ev_lk w152 4 = some (.int (Int32.ofInt x8)) → ev_lk w152 5 = some (.int (Int32.ofInt x9)) → ev_lk w152 6 = some (.int (Int32.ofInt x10)) → ev_lk w152 7 = some (.int (Int32.ofInt x11)) → ev_lk w152 8 = some (.int (Int32.ofInt x12)) → ev_lk w152 10 = some (.int (Int32.ofInt x39)) → ev_lk w152 11 = some (.int (Int32.ofInt x151)) → ev_w none (ev_Mof 279) d 177 w152 [] s163 (K x151 s163) ev_eI ev_rng) ?_ ?_
          · intro x151 hx151 s163 w152 e153 e154 e155 e156 e157 e158 e159 e160 e161 e162
            refine ev_r_iconst (pc := 177) (k := 0) (by decide +kernel) ?_
            exact hK178 x151 hx151 0 (by decide) s163 _ (by exact e153) (by exact e154) (by exact e155) (by exact e156) (by exact e157) (by exact e158) (by exact e159) (by exact e160) (by exact e161) (by exact e162)
          · intro K177 hK177
            refine ev_r_if (pc := 141) (q := .eq) (o := 36) (t := 177) (c := x54 = 0) (by decide +kernel) (ev_k_eq hx54 ev_rng0) (by decide +kernel) ?_ ?_
            · intro c164
              exact hK177 x40 hx40 s53 _ (by exact (ev_l1 e42 (by decide) (by decide))) (by exact (ev_l1 e43 (by decide) (by decide))) (by exact (ev_l1 e44 (by decide) (by decide))) (by exact (ev_l1 e45 (by decide) (by decide))) (by exact (ev_l1 e46 (by decide) (by decide))) (by exact (ev_l1 e47 (by decide) (by decide))) (by exact (ev_l1 e48 (by decide) (by decide))) (by exact (ev_l1 e49 (by decide) (by decide))) (by exact (ev_lk_st1 e50 (by decide) rfl)) (by exact ev_lk_st1_self)
            · intro c164
              refine ev_r_aload_n (pc := 144) (k := 0) (v := .ref 621) trivial (by decide +kernel) (by exact (ev_l1 e42 (by decide) (by decide))) ?_
              refine ev_r_getC (pc := 145) (y := 34) (ci := 13) (f := 11) (fin := 1) (k' := 630) (by decide +kernel) (by decide +kernel) (by exact ev_ob_621) rfl rfl ?_
              refine ev_r_iload (pc := 148) (k := 10) (v := Int32.ofInt x39) (by decide +kernel) (by exact (ev_lk_st1 e50 (by decide) rfl)) ?_
              refine ev_r_iald (pc := 150) hx39 (by decide +kernel) (by exact ev_ab_630) ?_
              intro x165 hx165
              refine ev_r_iconst (pc := 151) (k := -1) (by decide +kernel) ?_
              refine ev_r_icmp (pc := 152) (q := .ne) (o := 25) (t := 177) (c := x165 ≠ (-1)) (by decide +kernel) (ev_k_ne hx165 (by decide)) (by decide +kernel) ?_ ?_
              · intro c166
                exact hK177 x40 hx40 s53 _ (by exact (ev_l1 e42 (by decide) (by decide))) (by exact (ev_l1 e43 (by decide) (by decide))) (by exact (ev_l1 e44 (by decide) (by decide))) (by exact (ev_l1 e45 (by decide) (by decide))) (by exact (ev_l1 e46 (by decide) (by decide))) (by exact (ev_l1 e47 (by decide) (by decide))) (by exact (ev_l1 e48 (by decide) (by decide))) (by exact (ev_l1 e49 (by decide) (by decide))) (by exact (ev_lk_st1 e50 (by decide) rfl)) (by exact ev_lk_st1_self)
              · intro c166
                refine ev_r_aload_n (pc := 155) (k := 0) (v := .ref 621) trivial (by decide +kernel) (by exact (ev_l1 e42 (by decide) (by decide))) ?_
                refine ev_r_getC (pc := 156) (y := 25) (ci := 13) (f := 8) (fin := 1) (k' := 627) (by decide +kernel) (by decide +kernel) (by exact ev_ob_621) rfl rfl ?_
                refine ev_r_iload_n (pc := 159) (k := 3) (v := Int32.ofInt x7) (by decide +kernel) (by exact (ev_l1 e44 (by decide) (by decide))) ?_
                refine ev_r_aload_n (pc := 160) (k := 0) (v := .ref 621) trivial (by decide +kernel) (by exact (ev_l1 e42 (by decide) (by decide))) ?_
                refine ev_r_getC (pc := 161) (y := 22) (ci := 13) (f := 7) (fin := 1) (k' := 626) (by decide +kernel) (by decide +kernel) (by exact ev_ob_621) rfl rfl ?_
                refine ev_r_iload (pc := 164) (k := 10) (v := Int32.ofInt x39) (by decide +kernel) (by exact (ev_lk_st1 e50 (by decide) rfl)) ?_
                refine ev_r_iald (pc := 166) hx39 (by decide +kernel) (by exact ev_ab_626) ?_
                intro x167 hx167
                refine ev_r_iadd (pc := 167) (by decide +kernel) ?_
                intro x168 hx168
                refine ev_r_iald (pc := 168) hx168 (by decide +kernel) (by exact ev_ab_627) ?_
                intro x169 hx169
                refine ev_r_iconst (pc := 169) (k := -1) (by decide +kernel) ?_
                refine ev_r_icmp (pc := 170) (q := .ne) (o := 7) (t := 177) (c := x169 ≠ (-1)) (by decide +kernel) (ev_k_ne hx169 (by decide)) (by decide +kernel) ?_ ?_
                · intro c170
                  exact hK177 x40 hx40 s53 _ (by exact (ev_l1 e42 (by decide) (by decide))) (by exact (ev_l1 e43 (by decide) (by decide))) (by exact (ev_l1 e44 (by decide) (by decide))) (by exact (ev_l1 e45 (by decide) (by decide))) (by exact (ev_l1 e46 (by decide) (by decide))) (by exact (ev_l1 e47 (by decide) (by decide))) (by exact (ev_l1 e48 (by decide) (by decide))) (by exact (ev_l1 e49 (by decide) (by decide))) (by exact (ev_lk_st1 e50 (by decide) rfl)) (by exact ev_lk_st1_self)
                · intro c170
                  refine ev_r_iconst (pc := 173) (k := 1) (by decide +kernel) ?_
                  refine ev_r_goto (pc := 174) (o := 4) (t := 178) (by decide +kernel) (by decide +kernel) ?_
                  exact hK178 x40 hx40 1 (by decide) s53 _ (by exact (ev_l1 e42 (by decide) (by decide))) (by exact (ev_l1 e43 (by decide) (by decide))) (by exact (ev_l1 e44 (by decide) (by decide))) (by exact (ev_l1 e45 (by decide) (by decide))) (by exact (ev_l1 e46 (by decide) (by decide))) (by exact (ev_l1 e47 (by decide) (by decide))) (by exact (ev_l1 e48 (by decide) (by decide))) (by exact (ev_l1 e49 (by decide) (by decide))) (by exact (ev_lk_st1 e50 (by decide) rfl)) (by exact ev_lk_st1_self)
      · intro K129 hK129
        refine ev_r_jn (Q := fun K => ∀ (x171 : Int) (hx171 : ev_rng x171), ∀ (s182 : ev_St) (w172 : List (Nat × Value)), ev_lk w172 0 = some (.ref 621) → ev_lk w172 2 = some (.int (Int32.ofInt a1)) → ev_lk w172 3 = some (.int (Int32.ofInt x7)) → ev_lk w172 4 = some (.int (Int32.ofInt x8)) → ev_lk w172 5 = some (.int (Int32.ofInt x9)) → ev_lk w172 6 = some (.int (Int32.ofInt x10)) → ev_lk w172 7 = some (.int (Int32.ofInt x11)) → ev_lk w172 8 = some (.int (Int32.ofInt x12)) → ev_lk w172 10 = some (.int (Int32.ofInt x171)) → ev_w none (ev_Mof 279) d 128 w172 [] s182 (K x171 s182) ev_eI ev_rng) ?_ ?_
        · intro x171 hx171 s182 w172 e173 e174 e175 e176 e177 e178 e179 e180 e181
          refine ev_r_iconst (pc := 128) (k := -1) (by decide +kernel) ?_
          exact hK129 x171 hx171 ((-1)) (by decide) s182 _ (by exact e173) (by exact e174) (by exact e175) (by exact e176) (by exact e177) (by exact e178) (by exact e179) (by exact e180) (by exact e181)
        · intro K128 hK128
          refine ev_r_if (pc := 105) (q := .ne) (o := 23) (t := 128) (c := x38 ≠ 0) (by decide +kernel) (ev_k_ne hx38 ev_rng0) (by decide +kernel) ?_ ?_
          · intro c183
            exact hK128 x37 hx37 s35 _ (by exact (ev_l1 e26 (by decide) (by decide))) (by exact (ev_l1 e27 (by decide) (by decide))) (by exact (ev_l1 e28 (by decide) (by decide))) (by exact (ev_l1 e29 (by decide) (by decide))) (by exact (ev_l1 e30 (by decide) (by decide))) (by exact (ev_l1 e31 (by decide) (by decide))) (by exact (ev_l1 e32 (by decide) (by decide))) (by exact (ev_l1 e33 (by decide) (by decide))) (by exact ev_lk_st1_self)
          · intro c183
            refine ev_r_aload_n (pc := 108) (k := 0) (v := .ref 621) trivial (by decide +kernel) (by exact (ev_l1 e26 (by decide) (by decide))) ?_
            refine ev_r_getC (pc := 109) (y := 34) (ci := 13) (f := 11) (fin := 1) (k' := 630) (by decide +kernel) (by decide +kernel) (by exact ev_ob_621) rfl rfl ?_
            refine ev_r_iload (pc := 112) (k := 10) (v := Int32.ofInt x37) (by decide +kernel) (by exact ev_lk_st1_self) ?_
            refine ev_r_iald (pc := 114) hx37 (by decide +kernel) (by exact ev_ab_630) ?_
            intro x184 hx184
            refine ev_r_iconst (pc := 115) (k := -1) (by decide +kernel) ?_
            refine ev_r_icmp (pc := 116) (q := .ne) (o := 12) (t := 128) (c := x184 ≠ (-1)) (by decide +kernel) (ev_k_ne hx184 (by decide)) (by decide +kernel) ?_ ?_
            · intro c185
              exact hK128 x37 hx37 s35 _ (by exact (ev_l1 e26 (by decide) (by decide))) (by exact (ev_l1 e27 (by decide) (by decide))) (by exact (ev_l1 e28 (by decide) (by decide))) (by exact (ev_l1 e29 (by decide) (by decide))) (by exact (ev_l1 e30 (by decide) (by decide))) (by exact (ev_l1 e31 (by decide) (by decide))) (by exact (ev_l1 e32 (by decide) (by decide))) (by exact (ev_l1 e33 (by decide) (by decide))) (by exact ev_lk_st1_self)
            · intro c185
              refine ev_r_aload_n (pc := 119) (k := 0) (v := .ref 621) trivial (by decide +kernel) (by exact (ev_l1 e26 (by decide) (by decide))) ?_
              refine ev_r_iload (pc := 120) (k := 10) (v := Int32.ofInt x37) (by decide +kernel) (by exact ev_lk_st1_self) ?_
              refine ev_r_virt (pc := 122) (y := 542) (mi := 278) (na := 1) (k := 621) (as := [.int (Int32.ofInt x37)]) (rest := []) (encc := ev_oI) (Q := ev_rng) (fun x S1 h => jt_278 d (by omega) Q x37 hx37 s35 x S1 h) (by exact ev_ob_621) (by decide +kernel) (by decide +kernel) (by decide +kernel) (by decide +kernel) rfl (by (try simp only [ev_sum, ev_nv_cat]); first | done | rfl) ?_
              intro x187 s186 hx187
              show ev_w _ _ _ _ _ [.int (Int32.ofInt x187)] _ _ _ _
              refine ev_r_goto (pc := 125) (o := 4) (t := 129) (by decide +kernel) (by decide +kernel) ?_
              exact hK129 x37 hx37 x187 hx187 s186 _ (by exact (ev_l1 e26 (by decide) (by decide))) (by exact (ev_l1 e27 (by decide) (by decide))) (by exact (ev_l1 e28 (by decide) (by decide))) (by exact (ev_l1 e29 (by decide) (by decide))) (by exact (ev_l1 e30 (by decide) (by decide))) (by exact (ev_l1 e31 (by decide) (by decide))) (by exact (ev_l1 e32 (by decide) (by decide))) (by exact (ev_l1 e33 (by decide) (by decide))) (by exact ev_lk_st1_self)
    · intro c36
      refine ev_r_iinc (pc := 77) (k := 8) (c := -1) (x := x12) (by decide +kernel) (by decide +kernel) (by exact e33) (fun _ => rfl) ?_
      intro x188 hx188
      refine ev_r_aload_n (pc := 80) (k := 0) (v := .ref 621) trivial (by decide +kernel) (by exact (ev_l1 e26 (by decide) (by decide))) ?_
      refine ev_r_getC (pc := 81) (y := 126) (ci := 13) (f := 52) (fin := 1) (k' := 660) (by decide +kernel) (by decide +kernel) (by exact ev_ob_621) rfl rfl ?_
      refine ev_r_iload (pc := 84) (k := 8) (v := Int32.ofInt x188) (by decide +kernel) (by exact ev_lk_st1_self) ?_
      refine ev_r_iald (pc := 86) hx188 (by decide +kernel) (by exact ev_ab_660) ?_
      intro x189 hx189
      refine ev_r_istore (pc := 87) (k := 9) (by decide +kernel) (by decide +kernel) rfl ?_
      refine ev_r_goto (pc := 89) (o := (-29)) (t := 60) (by decide +kernel) (by decide +kernel) ?_
      exact hK60 x7 hx7 x8 hx8 x9 hx9 x10 hx10 x11 hx11 x188 hx188 x189 hx189 s35 _ (by exact (ev_l1 (ev_l1 e26 (by decide) (by decide)) (by decide) (by decide))) (by exact (ev_l1 (ev_l1 e27 (by decide) (by decide)) (by decide) (by decide))) (by exact (ev_l1 (ev_l1 e28 (by decide) (by decide)) (by decide) (by decide))) (by exact (ev_l1 (ev_l1 e29 (by decide) (by decide)) (by decide) (by decide))) (by exact (ev_l1 (ev_l1 e30 (by decide) (by decide)) (by decide) (by decide))) (by exact (ev_l1 (ev_l1 e31 (by decide) (by decide)) (by decide) (by decide))) (by exact (ev_l1 (ev_lk_st1 e32 (by decide) rfl) (by decide) (by decide))) (by exact (ev_lk_st1 ev_lk_st1_self (by decide) rfl)) (by exact ev_lk_st1_self)
  · intro K71 hK71
    refine ev_r_icmp (pc := 63) (q := .ne) (o := 8) (t := 71) (c := x13 ≠ (-1)) (by decide +kernel) (ev_k_ne hx13 (by decide)) (by decide +kernel) ?_ ?_
    · intro c190
      exact hK71  s24 _ (by exact e15) (by exact e16) (by exact e17) (by exact e18) (by exact e19) (by exact e20) (by exact e21) (by exact e22) (by exact e23)
    · intro c190
      refine ev_r_iload (pc := 66) (k := 8) (v := Int32.ofInt x12) (by decide +kernel) (by exact e22) ?_
      refine ev_r_if (pc := 68) (q := .le) (o := 241) (t := 309) (c := x12 ≤ 0) (by decide +kernel) (ev_k_le hx12 ev_rng0) (by decide +kernel) ?_ ?_
      · intro c191
        refine ev_r_iload_n (pc := 309) (k := 2) (v := Int32.ofInt a1) (by decide +kernel) (by exact e16) ?_
        refine ev_r_iload (pc := 310) (k := 4) (v := Int32.ofInt x8) (by decide +kernel) (by exact e18) ?_
        refine ev_r_icmp (pc := 312) (q := .ge) (o := 15) (t := 327) (c := x8 ≤ a1) (by decide +kernel) (ev_k_ge ha1 hx8) (by decide +kernel) ?_ ?_
        · intro c192
          refine ev_r_iconst (pc := 327) (k := -1) (by decide +kernel) ?_
          exact ev_r_ireturn (pc := 328) (x := (-1)) (v := Int32.ofInt ((-1))) (ty := .int) (by decide) (by decide +kernel) (by decide +kernel) rfl rfl
        · intro c192
          refine ev_r_aload_n (pc := 315) (k := 0) (v := .ref 621) trivial (by decide +kernel) (by exact e15) ?_
          refine ev_r_getC (pc := 316) (y := 129) (ci := 13) (f := 53) (fin := 1) (k' := 661) (by decide +kernel) (by decide +kernel) (by exact ev_ob_621) rfl rfl ?_
          refine ev_r_iload (pc := 319) (k := 5) (v := Int32.ofInt x9) (by decide +kernel) (by exact e19) ?_
          refine ev_r_iload_n (pc := 321) (k := 2) (v := Int32.ofInt a1) (by decide +kernel) (by exact e16) ?_
          refine ev_r_iadd (pc := 322) (by decide +kernel) ?_
          intro x193 hx193
          refine ev_r_iald (pc := 323) hx193 (by decide +kernel) (by exact ev_ab_661) ?_
          intro x194 hx194
          refine ev_r_goto (pc := 324) (o := 4) (t := 328) (by decide +kernel) (by decide +kernel) ?_
          exact ev_r_ireturn (pc := 328) (x := x194) (v := Int32.ofInt x194) (ty := .int) hx194 (by decide +kernel) (by decide +kernel) rfl rfl
      · intro c191
        exact hK71  s24 _ (by exact e15) (by exact e16) (by exact e17) (by exact e18) (by exact e19) (by exact e20) (by exact e21) (by exact e22) (by exact e23)
theorem jlt_279_60 (d : Nat) (hd : 4 ≤ d + 1) (Q : Nat) (a1 : Int) (ha1 : ev_rng a1)   : ∀ q : Nat, ∀ (x7 : Int) (hx7 : ev_rng x7), ∀ (x8 : Int) (hx8 : ev_rng x8), ∀ (x9 : Int) (hx9 : ev_rng x9), ∀ (x10 : Int) (hx10 : ev_rng x10), ∀ (x11 : Int) (hx11 : ev_rng x11), ∀ (x12 : Int) (hx12 : ev_rng x12), ∀ (x13 : Int) (hx13 : ev_rng x13), ∀ (s24 : ev_St) (w14 : List (Nat × Value)), ev_lk w14 0 = some (.ref 621) → ev_lk w14 2 = some (.int (Int32.ofInt a1)) → ev_lk w14 3 = some (.int (Int32.ofInt x7)) → ev_lk w14 4 = some (.int (Int32.ofInt x8)) → ev_lk w14 5 = some (.int (Int32.ofInt x9)) → ev_lk w14 6 = some (.int (Int32.ofInt x10)) → ev_lk w14 7 = some (.int (Int32.ofInt x11)) → ev_lk w14 8 = some (.int (Int32.ofInt x12)) → ev_lk w14 9 = some (.int (Int32.ofInt x13)) → ev_w none (ev_Mof 279) d 60 w14 [] s24 (jl_279_60 Q a1  q x7 x8 x9 x10 x11 x12 x13 s24) ev_eI ev_rng := by
  intro q
  induction q with
  | zero =>
    intro x7 hx7 x8 hx8 x9 hx9 x10 hx10 x11 hx11 x12 hx12 x13 hx13 s24 w14 e15 e16 e17 e18 e19 e20 e21 e22 e23
    exact ev_w_none
  | succ q ih => exact jbt_279_60 d hd Q a1 ha1   _ ih
/-- MendBenchModel.literal(II)I -/
def jm_279 (Q : Nat) (a0 : Int) (a1 : Int) (S : ev_St) : Option ((Int) × ev_St) := ev_b (ev_pI S 621 0 0) fun s1 => ev_bd (jm_273 Q a0 s1) fun x3 s2 => if x3 ≠ 0 then (if 0 ≤ a1 then (ev_ck (320 * a0) fun x6 => ev_if ((0 : Int) ≤ 0 ∧ 0 < (ev_aln 660 : Int)) (ev_b (ev_pI s2 660 (Int.toNat 0) ((-1))) fun s195 => jl_279_60 Q a1  Q x6 0 0 0 0 0 0 s195)) else (ev_bd (jm_221 Q 2 s2) fun x197 s196 => some (x197, s196))) else (ev_bd (jm_221 Q 1 s2) fun x199 s198 => some (x199, s198))
theorem jt_279 (d : Nat) (hd : 4 ≤ d) (Q : Nat) (a0 : Int) (a1 : Int) (ha0 : ev_rng a0) (ha1 : ev_rng a1) (S : ev_St) (x : Int) (S' : ev_St) (hJ : jm_279 Q a0 a1 S = some (x, S')) : ev_Ref d 279 [.ref 621, .int (Int32.ofInt a0), .int (Int32.ofInt a1)] S (ev_eI x) S' (ev_rng x) := by
  obtain ⟨d, rfl⟩ : ∃ e, d = e + 1 := ⟨d - 1, by omega⟩
  refine ev_ref_of (P := ev_rng) (lv := [(0, .ref 621), (1, .int (Int32.ofInt a0)), (2, .int (Int32.ofInt a1))]) (by decide +kernel) (by (try simp only [ev_sum, ev_nv_cat]); first | done | rfl) (by (try simp only [lv_args, ev_nv_cat]); first | done | rfl) ?_ x S' hJ
  unfold jm_279
  refine ev_r_aload_n (pc := 0) (k := 0) (v := .ref 621) trivial (by decide +kernel) (by rfl) ?_
  refine ev_r_iconst (pc := 1) (k := 0) (by decide +kernel) ?_
  refine ev_r_putI (pc := 2) (y := 321) (ci := 13) (f := 0) (by decide) (by decide +kernel) (by decide +kernel) (by exact ev_ob_621) rfl rfl ?_
  intro s1
  refine ev_r_aload_n (pc := 5) (k := 0) (v := .ref 621) trivial (by decide +kernel) (by rfl) ?_
  refine ev_r_iload_n (pc := 6) (k := 1) (v := Int32.ofInt a0) (by decide +kernel) (by rfl) ?_
  refine ev_r_virt (pc := 7) (y := 531) (mi := 273) (na := 1) (k := 621) (as := [.int (Int32.ofInt a0)]) (rest := []) (encc := ev_oI) (Q := ev_bl) (fun x S1 h => jt_273 d (by omega) Q a0 ha0 s1 x S1 h) (by exact ev_ob_621) (by decide +kernel) (by decide +kernel) (by decide +kernel) (by decide +kernel) rfl (by (try simp only [ev_sum, ev_nv_cat]); first | done | rfl) ?_
  intro x3 s2 hx3
  replace hx3 := ev_bl_rng hx3
  show ev_w _ _ _ _ _ [.int (Int32.ofInt x3)] _ _ _ _
  refine ev_r_if (pc := 10) (q := .ne) (o := 9) (t := 19) (c := x3 ≠ 0) (by decide +kernel) (ev_k_ne hx3 ev_rng0) (by decide +kernel) ?_ ?_
  · intro c4
    refine ev_r_iload_n (pc := 19) (k := 2) (v := Int32.ofInt a1) (by decide +kernel) (by rfl) ?_
    refine ev_r_if (pc := 20) (q := .ge) (o := 9) (t := 29) (c := 0 ≤ a1) (by decide +kernel) (ev_k_ge ha1 ev_rng0) (by decide +kernel) ?_ ?_
    · intro c5
      refine ev_r_sipush (pc := 29) (k := 320) (by decide +kernel) (by decide +kernel) ?_
      refine ev_r_iload_n (pc := 32) (k := 1) (v := Int32.ofInt a0) (by decide +kernel) (by rfl) ?_
      refine ev_r_imul (pc := 33) (by decide +kernel) ?_
      intro x6 hx6
      refine ev_r_istore_n (pc := 34) (k := 3) (by decide +kernel) (by decide +kernel) rfl ?_
      refine ev_r_iconst (pc := 35) (k := 0) (by decide +kernel) ?_
      refine ev_r_istore (pc := 36) (k := 4) (by decide +kernel) (by decide +kernel) rfl ?_
      refine ev_r_iconst (pc := 38) (k := 0) (by decide +kernel) ?_
      refine ev_r_istore (pc := 39) (k := 5) (by decide +kernel) (by decide +kernel) rfl ?_
      refine ev_r_iconst (pc := 41) (k := 0) (by decide +kernel) ?_
      refine ev_r_istore (pc := 42) (k := 6) (by decide +kernel) (by decide +kernel) rfl ?_
      refine ev_r_iconst (pc := 44) (k := 0) (by decide +kernel) ?_
      refine ev_r_istore (pc := 45) (k := 7) (by decide +kernel) (by decide +kernel) rfl ?_
      refine ev_r_iconst (pc := 47) (k := 0) (by decide +kernel) ?_
      refine ev_r_istore (pc := 48) (k := 8) (by decide +kernel) (by decide +kernel) rfl ?_
      refine ev_r_iconst (pc := 50) (k := 0) (by decide +kernel) ?_
      refine ev_r_istore (pc := 51) (k := 9) (by decide +kernel) (by decide +kernel) rfl ?_
      refine ev_r_aload_n (pc := 53) (k := 0) (v := .ref 621) trivial (by decide +kernel) (by exact (ev_l1 (ev_l1 (ev_l1 (ev_l1 (ev_l1 (ev_l1 (ev_l1 (by rfl) (by decide) (by decide)) (by decide) (by decide)) (by decide) (by decide)) (by decide) (by decide)) (by decide) (by decide)) (by decide) (by decide)) (by decide) (by decide))) ?_
      refine ev_r_getC (pc := 54) (y := 126) (ci := 13) (f := 52) (fin := 1) (k' := 660) (by decide +kernel) (by decide +kernel) (by exact ev_ob_621) rfl rfl ?_
      refine ev_r_iconst (pc := 57) (k := 0) (by decide +kernel) ?_
      refine ev_r_iconst (pc := 58) (k := -1) (by decide +kernel) ?_
      refine ev_r_iast (pc := 59) (by decide) (by decide) (by decide +kernel) (by exact ev_ab_660) ?_
      intro s195
      exact jlt_279_60 d hd Q a1 ha1   Q x6 hx6 0 (by decide) 0 (by decide) 0 (by decide) 0 (by decide) 0 (by decide) 0 (by decide) s195 _ (by exact (ev_l1 (ev_l1 (ev_l1 (ev_l1 (ev_l1 (ev_l1 (ev_l1 (by rfl) (by decide) (by decide)) (by decide) (by decide)) (by decide) (by decide)) (by decide) (by decide)) (by decide) (by decide)) (by decide) (by decide)) (by decide) (by decide))) (by exact (ev_l1 (ev_l1 (ev_l1 (ev_l1 (ev_l1 (ev_l1 (ev_lk_st1 (by rfl) (by decide) rfl) (by decide) (by decide)) (by decide) (by decide)) (by decide) (by decide)) (by decide) (by decide)) (by decide) (by decide)) (by decide) (by decide))) (by exact (ev_l1 (ev_l1 (ev_l1 (ev_l1 (ev_l1 (ev_lk_st1 ev_lk_st1_self (by decide) rfl) (by decide) (by decide)) (by decide) (by decide)) (by decide) (by decide)) (by decide) (by decide)) (by decide) (by decide))) (by exact (ev_l1 (ev_l1 (ev_l1 (ev_l1 (ev_lk_st1 ev_lk_st1_self (by decide) rfl) (by decide) (by decide)) (by decide) (by decide)) (by decide) (by decide)) (by decide) (by decide))) (by exact (ev_l1 (ev_l1 (ev_l1 (ev_lk_st1 ev_lk_st1_self (by decide) rfl) (by decide) (by decide)) (by decide) (by decide)) (by decide) (by decide))) (by exact (ev_l1 (ev_l1 (ev_lk_st1 ev_lk_st1_self (by decide) rfl) (by decide) (by decide)) (by decide) (by decide))) (by exact (ev_l1 (ev_lk_st1 ev_lk_st1_self (by decide) rfl) (by decide) (by decide))) (by exact (ev_lk_st1 ev_lk_st1_self (by decide) rfl)) (by exact ev_lk_st1_self)
    · intro c5
      refine ev_r_aload_n (pc := 23) (k := 0) (v := .ref 621) trivial (by decide +kernel) (by rfl) ?_
      refine ev_r_iconst (pc := 24) (k := 2) (by decide +kernel) ?_
      refine ev_r_virt (pc := 25) (y := 342) (mi := 221) (na := 1) (k := 621) (as := [.int (Int32.ofInt 2)]) (rest := []) (encc := ev_oI) (Q := ev_rng) (fun x S1 h => jt_221 d (by omega) Q 2 (by decide) s2 x S1 h) (by exact ev_ob_621) (by decide +kernel) (by decide +kernel) (by decide +kernel) (by decide +kernel) rfl (by (try simp only [ev_sum, ev_nv_cat]); first | done | rfl) ?_
      intro x197 s196 hx197
      show ev_w _ _ _ _ _ [.int (Int32.ofInt x197)] _ _ _ _
      exact ev_r_ireturn (pc := 28) (x := x197) (v := Int32.ofInt x197) (ty := .int) hx197 (by decide +kernel) (by decide +kernel) rfl rfl
  · intro c4
    refine ev_r_aload_n (pc := 13) (k := 0) (v := .ref 621) trivial (by decide +kernel) (by rfl) ?_
    refine ev_r_iconst (pc := 14) (k := 1) (by decide +kernel) ?_
    refine ev_r_virt (pc := 15) (y := 342) (mi := 221) (na := 1) (k := 621) (as := [.int (Int32.ofInt 1)]) (rest := []) (encc := ev_oI) (Q := ev_rng) (fun x S1 h => jt_221 d (by omega) Q 1 (by decide) s2 x S1 h) (by exact ev_ob_621) (by decide +kernel) (by decide +kernel) (by decide +kernel) (by decide +kernel) rfl (by (try simp only [ev_sum, ev_nv_cat]); first | done | rfl) ?_
    intro x199 s198 hx199
    show ev_w _ _ _ _ _ [.int (Int32.ofInt x199)] _ _ _ _
    exact ev_r_ireturn (pc := 18) (x := x199) (v := Int32.ofInt x199) (ty := .int) hx199 (by decide +kernel) (by decide +kernel) rfl rfl
