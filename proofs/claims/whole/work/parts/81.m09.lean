/-! METHODS as functions, laid by decomp.py -/
theorem ev_ab_640 : ev_isAb 640 1 .int = true := (by decide +kernel)
theorem ev_ab_642 : ev_isAb 642 1 .int = true := (by decide +kernel)
theorem ev_ab_641 : ev_isAb 641 1 .int = true := (by decide +kernel)
theorem ev_ab_643 : ev_isAb 643 1 .int = true := (by decide +kernel)
theorem ev_ab_666 : ev_isAb 666 1 .int = true := (by decide +kernel)
theorem ev_ab_667 : ev_isAb 667 1 .int = true := (by decide +kernel)
theorem ev_ab_668 : ev_isAb 668 1 .int = true := (by decide +kernel)
theorem ev_ab_662 : ev_isAb 662 1 .int = true := (by decide +kernel)
theorem ev_ab_663 : ev_isAb 663 1 .int = true := (by decide +kernel)
theorem ev_ab_664 : ev_isAb 664 1 .int = true := (by decide +kernel)
theorem ev_ab_665 : ev_isAb 665 1 .int = true := (by decide +kernel)
/-- MendBenchModel.verbs()V -/
def jm_262 (Q : Nat)  (S : ev_St) : Option ((Unit) × ev_St) := ev_bd (jm_233 Q 0 S) fun x2 s1 => ev_b (s1.1 621 25) fun x3 => ev_jn (fun (x4 : Int) (x5 : Int) (s9 : ev_St) => ev_if (ev_bl x5) (ev_b (ev_pI s9 621 25 x5) fun s10 => ev_bd (jm_234 Q 2 s10) fun _ s12 => ev_jn (fun (x13 : Int) (s16 : ev_St) => ev_bd (jm_237 Q x13 s16) fun x18 s17 => ev_b (ev_pI s17 621 39 ((-1))) fun s19 => some ((), s19)) fun K80 => if x4 ≠ 70 then (if x4 ≠ 67 then (K80 17 s12) else (K80 16 s12)) else (K80 15 s12))) fun K47 => ev_jn (fun (x22 : Int) (s26 : ev_St) => K47 x22 1 s26) fun K42 => if x3 ≠ 0 then (K42 x2 s1) else (ev_jn (fun  (s31 : ev_St) => ev_bd (jm_233 Q 1 s31) fun x33 s32 => if x33 = 41 then (K47 x2 0 s32) else (K42 x2 s32)) fun K32 => if x2 = 70 then (K32  s1) else (if x2 = 67 then (K32  s1) else (if x2 ≠ 83 then (K42 x2 s1) else (K32  s1))))
theorem jt_262 (d : Nat) (hd : 4 ≤ d) (Q : Nat)   (S : ev_St) (x : Unit) (S' : ev_St) (hJ : jm_262 Q  S = some (x, S')) : ev_Ref d 262 [.ref 621] S (ev_eU x) S' (ev_PU x) := by
  obtain ⟨d, rfl⟩ : ∃ e, d = e + 1 := ⟨d - 1, by omega⟩
  refine ev_ref_of (P := ev_PU) (lv := [(0, .ref 621)]) (by decide +kernel) (by (try simp only [ev_sum, ev_nv_cat]); first | done | rfl) (by (try simp only [lv_args, ev_nv_cat]); first | done | rfl) ?_ x S' hJ
  unfold jm_262
  refine ev_r_aload_n (pc := 0) (k := 0) (v := .ref 621) trivial (by decide +kernel) (by rfl) ?_
  refine ev_r_iconst (pc := 1) (k := 0) (by decide +kernel) ?_
  refine ev_r_virt (pc := 2) (y := 409) (mi := 233) (na := 1) (k := 621) (as := [.int (Int32.ofInt 0)]) (rest := []) (encc := ev_oI) (Q := ev_rng) (fun x S1 h => jt_233 d (by omega) Q 0 (by decide) S x S1 h) (by exact ev_ob_621) (by decide +kernel) (by decide +kernel) (by decide +kernel) (by decide +kernel) rfl (by (try simp only [ev_sum, ev_nv_cat]); first | done | rfl) ?_
  intro x2 s1 hx2
  show ev_w _ _ _ _ _ [.int (Int32.ofInt x2)] _ _ _ _
  refine ev_r_istore_n (pc := 5) (k := 1) (by decide +kernel) (by decide +kernel) rfl ?_
  refine ev_r_aload_n (pc := 6) (k := 0) (v := .ref 621) trivial (by decide +kernel) (by exact (ev_lk_st1 (by rfl) (by decide) rfl)) ?_
  refine ev_r_aload_n (pc := 7) (k := 0) (v := .ref 621) trivial (by decide +kernel) (by exact (ev_lk_st1 (by rfl) (by decide) rfl)) ?_
  refine ev_r_getI (pc := 8) (y := 352) (ci := 13) (f := 25) (fin := 0) (by decide +kernel) (by decide +kernel) (by exact ev_ob_621) rfl ?_
  intro x3 hx3
  refine ev_r_jn (Q := fun K => ∀ (x4 : Int) (hx4 : ev_rng x4), ∀ (x5 : Int) (hx5 : ev_rng x5), ∀ (s9 : ev_St) (w6 : List (Nat × Value)), ev_lk w6 0 = some (.ref 621) → ev_lk w6 1 = some (.int (Int32.ofInt x4)) → ev_w none (ev_Mof 262) d 47 w6 [.int (Int32.ofInt x5), .ref 621] s9 (K x4 x5 s9) ev_eU ev_PU) ?_ ?_
  · intro x4 hx4 x5 hx5 s9 w6 e7 e8
    refine ev_r_chk ?_
    intro c11
    refine ev_r_putI (pc := 47) (y := 352) (ci := 13) (f := 25) hx5 (by decide +kernel) (by decide +kernel) (by exact ev_ob_621) rfl (ev_fit_bl c11) ?_
    intro s10
    refine ev_r_aload_n (pc := 50) (k := 0) (v := .ref 621) trivial (by decide +kernel) (by exact e7) ?_
    refine ev_r_iconst (pc := 51) (k := 2) (by decide +kernel) ?_
    refine ev_r_virt (pc := 52) (y := 415) (mi := 234) (na := 1) (k := 621) (as := [.int (Int32.ofInt 2)]) (rest := []) (encc := ev_oU) (Q := ev_PU) (fun x S1 h => jt_234 d (by omega) Q 2 (by decide) s10 x S1 h) (by exact ev_ob_621) (by decide +kernel) (by decide +kernel) (by decide +kernel) (by decide +kernel) rfl (by (try simp only [ev_sum, ev_nv_cat]); first | done | rfl) ?_
    intro _ s12 _
    show ev_w _ _ _ _ _ [] _ _ _ _
    refine ev_r_aload_n (pc := 55) (k := 0) (v := .ref 621) trivial (by decide +kernel) (by exact e7) ?_
    refine ev_r_iload_n (pc := 56) (k := 1) (v := Int32.ofInt x4) (by decide +kernel) (by exact e8) ?_
    refine ev_r_bipush (pc := 57) (k := 70) (by decide +kernel) (by decide +kernel) ?_
    refine ev_r_jn (Q := fun K => ∀ (x13 : Int) (hx13 : ev_rng x13), ∀ (s16 : ev_St) (w14 : List (Nat × Value)), ev_lk w14 0 = some (.ref 621) → ev_w none (ev_Mof 262) d 80 w14 [.int (Int32.ofInt x13), .ref 621] s16 (K x13 s16) ev_eU ev_PU) ?_ ?_
    · intro x13 hx13 s16 w14 e15
      refine ev_r_virt (pc := 80) (y := 378) (mi := 237) (na := 1) (k := 621) (as := [.int (Int32.ofInt x13)]) (rest := []) (encc := ev_oI) (Q := ev_rng) (fun x S1 h => jt_237 d (by omega) Q x13 hx13 s16 x S1 h) (by exact ev_ob_621) (by decide +kernel) (by decide +kernel) (by decide +kernel) (by decide +kernel) rfl (by (try simp only [ev_sum, ev_nv_cat]); first | done | rfl) ?_
      intro x18 s17 hx18
      show ev_w _ _ _ _ _ [.int (Int32.ofInt x18)] _ _ _ _
      refine ev_r_istore_n (pc := 83) (k := 2) (by decide +kernel) (by decide +kernel) rfl ?_
      refine ev_r_aload_n (pc := 84) (k := 0) (v := .ref 621) trivial (by decide +kernel) (by exact (ev_l1 e15 (by decide) (by decide))) ?_
      refine ev_r_iconst (pc := 85) (k := -1) (by decide +kernel) ?_
      refine ev_r_putI (pc := 86) (y := 375) (ci := 13) (f := 39) (by decide) (by decide +kernel) (by decide +kernel) (by exact ev_ob_621) rfl rfl ?_
      intro s19
      exact ev_r_return (pc := 89) (x := ()) trivial (by decide +kernel) (by decide +kernel) rfl
    · intro K80 hK80
      refine ev_r_icmp (pc := 59) (q := .ne) (o := 8) (t := 67) (c := x4 ≠ 70) (by decide +kernel) (ev_k_ne hx4 (by decide)) (by decide +kernel) ?_ ?_
      · intro c20
        refine ev_r_iload_n (pc := 67) (k := 1) (v := Int32.ofInt x4) (by decide +kernel) (by exact e8) ?_
        refine ev_r_bipush (pc := 68) (k := 67) (by decide +kernel) (by decide +kernel) ?_
        refine ev_r_icmp (pc := 70) (q := .ne) (o := 8) (t := 78) (c := x4 ≠ 67) (by decide +kernel) (ev_k_ne hx4 (by decide)) (by decide +kernel) ?_ ?_
        · intro c21
          refine ev_r_bipush (pc := 78) (k := 17) (by decide +kernel) (by decide +kernel) ?_
          exact hK80 17 (by decide) s12 _ (by exact e7)
        · intro c21
          refine ev_r_bipush (pc := 73) (k := 16) (by decide +kernel) (by decide +kernel) ?_
          refine ev_r_goto (pc := 75) (o := 5) (t := 80) (by decide +kernel) (by decide +kernel) ?_
          exact hK80 16 (by decide) s12 _ (by exact e7)
      · intro c20
        refine ev_r_bipush (pc := 62) (k := 15) (by decide +kernel) (by decide +kernel) ?_
        refine ev_r_goto (pc := 64) (o := 16) (t := 80) (by decide +kernel) (by decide +kernel) ?_
        exact hK80 15 (by decide) s12 _ (by exact e7)
  · intro K47 hK47
    refine ev_r_jn (Q := fun K => ∀ (x22 : Int) (hx22 : ev_rng x22), ∀ (s26 : ev_St) (w23 : List (Nat × Value)), ev_lk w23 0 = some (.ref 621) → ev_lk w23 1 = some (.int (Int32.ofInt x22)) → ev_w none (ev_Mof 262) d 42 w23 [.ref 621] s26 (K x22 s26) ev_eU ev_PU) ?_ ?_
    · intro x22 hx22 s26 w23 e24 e25
      refine ev_r_iconst (pc := 42) (k := 1) (by decide +kernel) ?_
      refine ev_r_goto (pc := 43) (o := 4) (t := 47) (by decide +kernel) (by decide +kernel) ?_
      exact hK47 x22 hx22 1 (by decide) s26 _ (by exact e24) (by exact e25)
    · intro K42 hK42
      refine ev_r_if (pc := 11) (q := .ne) (o := 31) (t := 42) (c := x3 ≠ 0) (by decide +kernel) (ev_k_ne hx3 ev_rng0) (by decide +kernel) ?_ ?_
      · intro c27
        exact hK42 x2 hx2 s1 _ (by exact (ev_lk_st1 (by rfl) (by decide) rfl)) (by exact ev_lk_st1_self)
      · intro c27
        refine ev_r_iload_n (pc := 14) (k := 1) (v := Int32.ofInt x2) (by decide +kernel) (by exact ev_lk_st1_self) ?_
        refine ev_r_bipush (pc := 15) (k := 70) (by decide +kernel) (by decide +kernel) ?_
        refine ev_r_jn (Q := fun K => ∀ (s31 : ev_St) (w28 : List (Nat × Value)), ev_lk w28 0 = some (.ref 621) → ev_lk w28 1 = some (.int (Int32.ofInt x2)) → ev_w none (ev_Mof 262) d 32 w28 [.ref 621] s31 (K  s31) ev_eU ev_PU) ?_ ?_
        · intro  s31 w28 e29 e30
          refine ev_r_aload_n (pc := 32) (k := 0) (v := .ref 621) trivial (by decide +kernel) (by exact e29) ?_
          refine ev_r_iconst (pc := 33) (k := 1) (by decide +kernel) ?_
          refine ev_r_virt (pc := 34) (y := 409) (mi := 233) (na := 1) (k := 621) (as := [.int (Int32.ofInt 1)]) (rest := [.ref 621]) (encc := ev_oI) (Q := ev_rng) (fun x S1 h => jt_233 d (by omega) Q 1 (by decide) s31 x S1 h) (by exact ev_ob_621) (by decide +kernel) (by decide +kernel) (by decide +kernel) (by decide +kernel) rfl (by (try simp only [ev_sum, ev_nv_cat]); first | done | rfl) ?_
          intro x33 s32 hx33
          show ev_w _ _ _ _ _ [.int (Int32.ofInt x33), .ref 621] _ _ _ _
          refine ev_r_bipush (pc := 37) (k := 41) (by decide +kernel) (by decide +kernel) ?_
          refine ev_r_icmp (pc := 39) (q := .eq) (o := 7) (t := 46) (c := x33 = 41) (by decide +kernel) (ev_k_eq hx33 (by decide)) (by decide +kernel) ?_ ?_
          · intro c34
            refine ev_r_iconst (pc := 46) (k := 0) (by decide +kernel) ?_
            exact hK47 x2 hx2 0 (by decide) s32 _ (by exact e29) (by exact e30)
          · intro c34
            exact hK42 x2 hx2 s32 _ (by exact e29) (by exact e30)
        · intro K32 hK32
          refine ev_r_icmp (pc := 17) (q := .eq) (o := 15) (t := 32) (c := x2 = 70) (by decide +kernel) (ev_k_eq hx2 (by decide)) (by decide +kernel) ?_ ?_
          · intro c35
            exact hK32  s1 _ (by exact (ev_lk_st1 (by rfl) (by decide) rfl)) (by exact ev_lk_st1_self)
          · intro c35
            refine ev_r_iload_n (pc := 20) (k := 1) (v := Int32.ofInt x2) (by decide +kernel) (by exact ev_lk_st1_self) ?_
            refine ev_r_bipush (pc := 21) (k := 67) (by decide +kernel) (by decide +kernel) ?_
            refine ev_r_icmp (pc := 23) (q := .eq) (o := 9) (t := 32) (c := x2 = 67) (by decide +kernel) (ev_k_eq hx2 (by decide)) (by decide +kernel) ?_ ?_
            · intro c36
              exact hK32  s1 _ (by exact (ev_lk_st1 (by rfl) (by decide) rfl)) (by exact ev_lk_st1_self)
            · intro c36
              refine ev_r_iload_n (pc := 26) (k := 1) (v := Int32.ofInt x2) (by decide +kernel) (by exact ev_lk_st1_self) ?_
              refine ev_r_bipush (pc := 27) (k := 83) (by decide +kernel) (by decide +kernel) ?_
              refine ev_r_icmp (pc := 29) (q := .ne) (o := 13) (t := 42) (c := x2 ≠ 83) (by decide +kernel) (ev_k_ne hx2 (by decide)) (by decide +kernel) ?_ ?_
              · intro c37
                exact hK42 x2 hx2 s1 _ (by exact (ev_lk_st1 (by rfl) (by decide) rfl)) (by exact ev_lk_st1_self)
              · intro c37
                exact hK32  s1 _ (by exact (ev_lk_st1 (by rfl) (by decide) rfl)) (by exact ev_lk_st1_self)
/-- MendBenchModel.reads()V -/
def jm_263 (Q : Nat)  (S : ev_St) : Option ((Unit) × ev_St) := ev_bd (jm_233 Q 0 S) fun x2 s1 => ev_jn (fun  (s5 : ev_St) => ev_bd (jm_255 Q  s5) fun _ s6 => some ((), s6)) fun K30 => if x2 = 63 then (K30  s1) else (if x2 = 42 then (K30  s1) else (if x2 = 43 then (K30  s1) else (if x2 ≠ 123 then (if x2 ≠ 92 then (if x2 ≠ 91 then (if x2 ≠ 40 then (if x2 ≠ 41 then (if x2 ≠ 124 then (ev_bd (jm_234 Q 1 s1) fun _ s16 => if x2 ≠ 46 then (ev_jn (fun  (s21 : ev_St) => ev_bd (jm_232 Q  s21) fun x23 s22 => ev_jn (fun (x25 : Int) (x24 : Int) (s28 : ev_St) => ev_bd (jm_237 Q x25 s28) fun x30 s29 => ev_ck (x24 + x30) fun x31 => ev_b (s29.1 621 40) fun x32 => ev_b (ev_iand x32 4) fun x33 => ev_if ((0 : Int) ≤ x31 ∧ x31 < (ev_aln 629 : Int)) (ev_b (ev_pI s29 629 (Int.toNat x31) x33) fun s34 => some ((), s34))) fun K308 => if x2 ≠ 94 then (K308 2 x23 s22) else (K308 1 x23 s22)) fun K292 => if x2 = 94 then (K292  s16) else (if x2 ≠ 36 then (ev_b (s16.1 621 40) fun x38 => ev_b (ev_iand x38 1) fun x39 => ev_jn (fun (x42 : Int) (x41 : Int) (x40 : Int) (s45 : ev_St) => ev_bd (jm_245 Q x40 x41 x42 s45) fun _ s46 => ev_b (s46.2.1 621 41) fun y47 => ev_b (s46.2.1 621 42) fun y48 => ev_bd (jm_238 Q y47 y48 s46) fun _ s49 => some ((), s49)) fun K345 => if x39 ≤ 0 then (K345 0 x2 x2 s16) else (K345 1 x2 x2 s16)) else (K292  s16))) else (ev_b (s16.1 621 40) fun x51 => ev_b (ev_iand x51 2) fun x52 => ev_jn (fun (y53 : Int64) (s55 : ev_St) => ev_bd (jm_238 Q y53 ((4294967295)) s55) fun _ s56 => some ((), s56)) fun K271 => if x52 ≤ 0 then (K271 ((-2)) s16) else (K271 ((-1)) s16))) else (ev_bd (jm_234 Q 1 s1) fun _ s58 => ev_bd (jm_241 Q  s58) fun _ s59 => some ((), s59))) else (ev_bd (jm_234 Q 1 s1) fun _ s60 => ev_b (s60.1 621 25) fun x61 => ev_jn (fun (x62 : Int) (s65 : ev_St) => ev_if (ev_bl x62) (ev_b (ev_pI s65 621 25 x62) fun s66 => ev_b (s66.1 621 25) fun x68 => if x68 ≠ 0 then (some ((), s66)) else (ev_bd (jm_240 Q  s66) fun _ s70 => some ((), s70)))) fun K206 => ev_jn (fun  (s73 : ev_St) => K206 1 s73) fun K201 => if x61 ≠ 0 then (K201  s60) else (ev_b (s60.1 621 31) fun x75 => if x75 < 2 then (K201  s60) else (ev_b (s60.1 621 31) fun x77 => ev_ck (x77 - 1) fun x78 => ev_if ((0 : Int) ≤ x78 ∧ x78 < (ev_aln 650 : Int)) (ev_b (s60.1 650 (Int.toNat x78)) fun x79 => if x79 = 0 then (K206 0 s60) else (K201  s60)))))) else (ev_bd (jm_233 Q 1 s1) fun x82 s81 => ev_jn (fun (x83 : Int) (s86 : ev_St) => ev_bd (jm_233 Q 1 s86) fun x88 s87 => ev_jn (fun (x89 : Int) (x90 : Int) (s94 : ev_St) => ev_jn (fun (x95 : Int) (x96 : Int) (s101 : ev_St) => ev_bd (jm_234 Q x96 s101) fun _ s102 => if x89 = 0 then (if x95 = 0 then (ev_bd (jm_259 Q ((-1)) s102) fun _ s105 => some ((), s105)) else (ev_bd (jm_262 Q  s102) fun _ s106 => some ((), s106))) else (ev_bd (jm_261 Q  s102) fun _ s107 => some ((), s107))) fun K127 => ev_jn (fun (x108 : Int) (s113 : ev_St) => K127 x108 2 s113) fun K122 => if x89 ≠ 0 then (K122 x90 s94) else (if x90 = 0 then (K127 x90 1 s94) else (K122 x90 s94))) fun K112 => if x88 ≠ 42 then (K112 x83 0 s87) else (K112 x83 1 s87)) fun K96 => if x82 ≠ 63 then (K96 0 s81) else (K96 1 s81))) else (ev_bd (jm_253 Q  s1) fun _ s118 => ev_b (s118.2.1 621 41) fun y119 => ev_b (s118.2.1 621 42) fun y120 => ev_bd (jm_238 Q y119 y120 s118) fun _ s121 => some ((), s121))) else (ev_bd (jm_256 Q  s1) fun _ s122 => some ((), s122))) else (K30  s1))))
theorem jt_263 (d : Nat) (hd : 7 ≤ d) (Q : Nat)   (S : ev_St) (x : Unit) (S' : ev_St) (hJ : jm_263 Q  S = some (x, S')) : ev_Ref d 263 [.ref 621] S (ev_eU x) S' (ev_PU x) := by
  obtain ⟨d, rfl⟩ : ∃ e, d = e + 1 := ⟨d - 1, by omega⟩
  refine ev_ref_of (P := ev_PU) (lv := [(0, .ref 621)]) (by decide +kernel) (by (try simp only [ev_sum, ev_nv_cat]); first | done | rfl) (by (try simp only [lv_args, ev_nv_cat]); first | done | rfl) ?_ x S' hJ
  unfold jm_263
  refine ev_r_aload_n (pc := 0) (k := 0) (v := .ref 621) trivial (by decide +kernel) (by rfl) ?_
  refine ev_r_iconst (pc := 1) (k := 0) (by decide +kernel) ?_
  refine ev_r_virt (pc := 2) (y := 409) (mi := 233) (na := 1) (k := 621) (as := [.int (Int32.ofInt 0)]) (rest := []) (encc := ev_oI) (Q := ev_rng) (fun x S1 h => jt_233 d (by omega) Q 0 (by decide) S x S1 h) (by exact ev_ob_621) (by decide +kernel) (by decide +kernel) (by decide +kernel) (by decide +kernel) rfl (by (try simp only [ev_sum, ev_nv_cat]); first | done | rfl) ?_
  intro x2 s1 hx2
  show ev_w _ _ _ _ _ [.int (Int32.ofInt x2)] _ _ _ _
  refine ev_r_istore_n (pc := 5) (k := 1) (by decide +kernel) (by decide +kernel) rfl ?_
  refine ev_r_iload_n (pc := 6) (k := 1) (v := Int32.ofInt x2) (by decide +kernel) (by exact ev_lk_st1_self) ?_
  refine ev_r_bipush (pc := 7) (k := 63) (by decide +kernel) (by decide +kernel) ?_
  refine ev_r_jn (Q := fun K => ∀ (s5 : ev_St) (w3 : List (Nat × Value)), ev_lk w3 0 = some (.ref 621) → ev_w none (ev_Mof 263) d 30 w3 [] s5 (K  s5) ev_eU ev_PU) ?_ ?_
  · intro  s5 w3 e4
    refine ev_r_aload_n (pc := 30) (k := 0) (v := .ref 621) trivial (by decide +kernel) (by exact e4) ?_
    refine ev_r_virt (pc := 31) (y := 472) (mi := 255) (na := 0) (k := 621) (as := []) (rest := []) (encc := ev_oU) (Q := ev_PU) (fun x S1 h => jt_255 d (by omega) Q   s5 x S1 h) (by exact ev_ob_621) (by decide +kernel) (by decide +kernel) (by decide +kernel) (by decide +kernel) rfl (by (try simp only [ev_sum, ev_nv_cat]); first | done | rfl) ?_
    intro _ s6 _
    show ev_w _ _ _ _ _ [] _ _ _ _
    refine ev_r_goto (pc := 34) (o := 326) (t := 360) (by decide +kernel) (by decide +kernel) ?_
    exact ev_r_return (pc := 360) (x := ()) trivial (by decide +kernel) (by decide +kernel) rfl
  · intro K30 hK30
    refine ev_r_icmp (pc := 9) (q := .eq) (o := 21) (t := 30) (c := x2 = 63) (by decide +kernel) (ev_k_eq hx2 (by decide)) (by decide +kernel) ?_ ?_
    · intro c7
      exact hK30  s1 _ (by exact (ev_lk_st1 (by rfl) (by decide) rfl))
    · intro c7
      refine ev_r_iload_n (pc := 12) (k := 1) (v := Int32.ofInt x2) (by decide +kernel) (by exact ev_lk_st1_self) ?_
      refine ev_r_bipush (pc := 13) (k := 42) (by decide +kernel) (by decide +kernel) ?_
      refine ev_r_icmp (pc := 15) (q := .eq) (o := 15) (t := 30) (c := x2 = 42) (by decide +kernel) (ev_k_eq hx2 (by decide)) (by decide +kernel) ?_ ?_
      · intro c8
        exact hK30  s1 _ (by exact (ev_lk_st1 (by rfl) (by decide) rfl))
      · intro c8
        refine ev_r_iload_n (pc := 18) (k := 1) (v := Int32.ofInt x2) (by decide +kernel) (by exact ev_lk_st1_self) ?_
        refine ev_r_bipush (pc := 19) (k := 43) (by decide +kernel) (by decide +kernel) ?_
        refine ev_r_icmp (pc := 21) (q := .eq) (o := 9) (t := 30) (c := x2 = 43) (by decide +kernel) (ev_k_eq hx2 (by decide)) (by decide +kernel) ?_ ?_
        · intro c9
          exact hK30  s1 _ (by exact (ev_lk_st1 (by rfl) (by decide) rfl))
        · intro c9
          refine ev_r_iload_n (pc := 24) (k := 1) (v := Int32.ofInt x2) (by decide +kernel) (by exact ev_lk_st1_self) ?_
          refine ev_r_bipush (pc := 25) (k := 123) (by decide +kernel) (by decide +kernel) ?_
          refine ev_r_icmp (pc := 27) (q := .ne) (o := 10) (t := 37) (c := x2 ≠ 123) (by decide +kernel) (ev_k_ne hx2 (by decide)) (by decide +kernel) ?_ ?_
          · intro c10
            refine ev_r_iload_n (pc := 37) (k := 1) (v := Int32.ofInt x2) (by decide +kernel) (by exact ev_lk_st1_self) ?_
            refine ev_r_bipush (pc := 38) (k := 92) (by decide +kernel) (by decide +kernel) ?_
            refine ev_r_icmp (pc := 40) (q := .ne) (o := 10) (t := 50) (c := x2 ≠ 92) (by decide +kernel) (ev_k_ne hx2 (by decide)) (by decide +kernel) ?_ ?_
            · intro c11
              refine ev_r_iload_n (pc := 50) (k := 1) (v := Int32.ofInt x2) (by decide +kernel) (by exact ev_lk_st1_self) ?_
              refine ev_r_bipush (pc := 51) (k := 91) (by decide +kernel) (by decide +kernel) ?_
              refine ev_r_icmp (pc := 53) (q := .ne) (o := 22) (t := 75) (c := x2 ≠ 91) (by decide +kernel) (ev_k_ne hx2 (by decide)) (by decide +kernel) ?_ ?_
              · intro c12
                refine ev_r_iload_n (pc := 75) (k := 1) (v := Int32.ofInt x2) (by decide +kernel) (by exact ev_lk_st1_self) ?_
                refine ev_r_bipush (pc := 76) (k := 40) (by decide +kernel) (by decide +kernel) ?_
                refine ev_r_icmp (pc := 78) (q := .ne) (o := 82) (t := 160) (c := x2 ≠ 40) (by decide +kernel) (ev_k_ne hx2 (by decide)) (by decide +kernel) ?_ ?_
                · intro c13
                  refine ev_r_iload_n (pc := 160) (k := 1) (v := Int32.ofInt x2) (by decide +kernel) (by exact ev_lk_st1_self) ?_
                  refine ev_r_bipush (pc := 161) (k := 41) (by decide +kernel) (by decide +kernel) ?_
                  refine ev_r_icmp (pc := 163) (q := .ne) (o := 60) (t := 223) (c := x2 ≠ 41) (by decide +kernel) (ev_k_ne hx2 (by decide)) (by decide +kernel) ?_ ?_
                  · intro c14
                    refine ev_r_iload_n (pc := 223) (k := 1) (v := Int32.ofInt x2) (by decide +kernel) (by exact ev_lk_st1_self) ?_
                    refine ev_r_bipush (pc := 224) (k := 124) (by decide +kernel) (by decide +kernel) ?_
                    refine ev_r_icmp (pc := 226) (q := .ne) (o := 15) (t := 241) (c := x2 ≠ 124) (by decide +kernel) (ev_k_ne hx2 (by decide)) (by decide +kernel) ?_ ?_
                    · intro c15
                      refine ev_r_aload_n (pc := 241) (k := 0) (v := .ref 621) trivial (by decide +kernel) (by exact (ev_lk_st1 (by rfl) (by decide) rfl)) ?_
                      refine ev_r_iconst (pc := 242) (k := 1) (by decide +kernel) ?_
                      refine ev_r_virt (pc := 243) (y := 415) (mi := 234) (na := 1) (k := 621) (as := [.int (Int32.ofInt 1)]) (rest := []) (encc := ev_oU) (Q := ev_PU) (fun x S1 h => jt_234 d (by omega) Q 1 (by decide) s1 x S1 h) (by exact ev_ob_621) (by decide +kernel) (by decide +kernel) (by decide +kernel) (by decide +kernel) rfl (by (try simp only [ev_sum, ev_nv_cat]); first | done | rfl) ?_
                      intro _ s16 _
                      show ev_w _ _ _ _ _ [] _ _ _ _
                      refine ev_r_iload_n (pc := 246) (k := 1) (v := Int32.ofInt x2) (by decide +kernel) (by exact ev_lk_st1_self) ?_
                      refine ev_r_bipush (pc := 247) (k := 46) (by decide +kernel) (by decide +kernel) ?_
                      refine ev_r_icmp (pc := 249) (q := .ne) (o := 31) (t := 280) (c := x2 ≠ 46) (by decide +kernel) (ev_k_ne hx2 (by decide)) (by decide +kernel) ?_ ?_
                      · intro c17
                        refine ev_r_iload_n (pc := 280) (k := 1) (v := Int32.ofInt x2) (by decide +kernel) (by exact ev_lk_st1_self) ?_
                        refine ev_r_bipush (pc := 281) (k := 94) (by decide +kernel) (by decide +kernel) ?_
                        refine ev_r_jn (Q := fun K => ∀ (s21 : ev_St) (w18 : List (Nat × Value)), ev_lk w18 0 = some (.ref 621) → ev_lk w18 1 = some (.int (Int32.ofInt x2)) → ev_w none (ev_Mof 263) d 292 w18 [] s21 (K  s21) ev_eU ev_PU) ?_ ?_
                        · intro  s21 w18 e19 e20
                          refine ev_r_aload_n (pc := 292) (k := 0) (v := .ref 621) trivial (by decide +kernel) (by exact e19) ?_
                          refine ev_r_virt (pc := 293) (y := 356) (mi := 232) (na := 0) (k := 621) (as := []) (rest := []) (encc := ev_oI) (Q := ev_rng) (fun x S1 h => jt_232 d (by omega) Q   s21 x S1 h) (by exact ev_ob_621) (by decide +kernel) (by decide +kernel) (by decide +kernel) (by decide +kernel) rfl (by (try simp only [ev_sum, ev_nv_cat]); first | done | rfl) ?_
                          intro x23 s22 hx23
                          show ev_w _ _ _ _ _ [.int (Int32.ofInt x23)] _ _ _ _
                          refine ev_r_aload_n (pc := 296) (k := 0) (v := .ref 621) trivial (by decide +kernel) (by exact e19) ?_
                          refine ev_r_iload_n (pc := 297) (k := 1) (v := Int32.ofInt x2) (by decide +kernel) (by exact e20) ?_
                          refine ev_r_bipush (pc := 298) (k := 94) (by decide +kernel) (by decide +kernel) ?_
                          refine ev_r_jn (Q := fun K => ∀ (x25 : Int) (hx25 : ev_rng x25), ∀ (x24 : Int) (hx24 : ev_rng x24), ∀ (s28 : ev_St) (w26 : List (Nat × Value)), ev_lk w26 0 = some (.ref 621) → ev_w none (ev_Mof 263) d 308 w26 [.int (Int32.ofInt x25), .ref 621, .int (Int32.ofInt x24)] s28 (K x25 x24 s28) ev_eU ev_PU) ?_ ?_
                          · intro x25 hx25 x24 hx24 s28 w26 e27
                            refine ev_r_virt (pc := 308) (y := 378) (mi := 237) (na := 1) (k := 621) (as := [.int (Int32.ofInt x25)]) (rest := [.int (Int32.ofInt x24)]) (encc := ev_oI) (Q := ev_rng) (fun x S1 h => jt_237 d (by omega) Q x25 hx25 s28 x S1 h) (by exact ev_ob_621) (by decide +kernel) (by decide +kernel) (by decide +kernel) (by decide +kernel) rfl (by (try simp only [ev_sum, ev_nv_cat]); first | done | rfl) ?_
                            intro x30 s29 hx30
                            show ev_w _ _ _ _ _ [.int (Int32.ofInt x30), .int (Int32.ofInt x24)] _ _ _ _
                            refine ev_r_iadd (pc := 311) (by decide +kernel) ?_
                            intro x31 hx31
                            refine ev_r_istore_n (pc := 312) (k := 2) (by decide +kernel) (by decide +kernel) rfl ?_
                            refine ev_r_aload_n (pc := 313) (k := 0) (v := .ref 621) trivial (by decide +kernel) (by exact (ev_l1 e27 (by decide) (by decide))) ?_
                            refine ev_r_getC (pc := 314) (y := 31) (ci := 13) (f := 10) (fin := 1) (k' := 629) (by decide +kernel) (by decide +kernel) (by exact ev_ob_621) rfl rfl ?_
                            refine ev_r_iload_n (pc := 317) (k := 2) (v := Int32.ofInt x31) (by decide +kernel) (by exact ev_lk_st1_self) ?_
                            refine ev_r_aload_n (pc := 318) (k := 0) (v := .ref 621) trivial (by decide +kernel) (by exact (ev_l1 e27 (by decide) (by decide))) ?_
                            refine ev_r_getI (pc := 319) (y := 384) (ci := 13) (f := 40) (fin := 0) (by decide +kernel) (by decide +kernel) (by exact ev_ob_621) rfl ?_
                            intro x32 hx32
                            refine ev_r_iconst (pc := 322) (k := 4) (by decide +kernel) ?_
                            refine ev_r_iand (pc := 323) (by decide +kernel) ?_
                            intro x33 hx33
                            refine ev_r_iast (pc := 324) hx33 hx31 (by decide +kernel) (by exact ev_ab_629) ?_
                            intro s34
                            refine ev_r_goto (pc := 325) (o := 35) (t := 360) (by decide +kernel) (by decide +kernel) ?_
                            exact ev_r_return (pc := 360) (x := ()) trivial (by decide +kernel) (by decide +kernel) rfl
                          · intro K308 hK308
                            refine ev_r_icmp (pc := 300) (q := .ne) (o := 7) (t := 307) (c := x2 ≠ 94) (by decide +kernel) (ev_k_ne hx2 (by decide)) (by decide +kernel) ?_ ?_
                            · intro c35
                              refine ev_r_iconst (pc := 307) (k := 2) (by decide +kernel) ?_
                              exact hK308 2 (by decide) x23 hx23 s22 _ (by exact e19)
                            · intro c35
                              refine ev_r_iconst (pc := 303) (k := 1) (by decide +kernel) ?_
                              refine ev_r_goto (pc := 304) (o := 4) (t := 308) (by decide +kernel) (by decide +kernel) ?_
                              exact hK308 1 (by decide) x23 hx23 s22 _ (by exact e19)
                        · intro K292 hK292
                          refine ev_r_icmp (pc := 283) (q := .eq) (o := 9) (t := 292) (c := x2 = 94) (by decide +kernel) (ev_k_eq hx2 (by decide)) (by decide +kernel) ?_ ?_
                          · intro c36
                            exact hK292  s16 _ (by exact (ev_lk_st1 (by rfl) (by decide) rfl)) (by exact ev_lk_st1_self)
                          · intro c36
                            refine ev_r_iload_n (pc := 286) (k := 1) (v := Int32.ofInt x2) (by decide +kernel) (by exact ev_lk_st1_self) ?_
                            refine ev_r_bipush (pc := 287) (k := 36) (by decide +kernel) (by decide +kernel) ?_
                            refine ev_r_icmp (pc := 289) (q := .ne) (o := 39) (t := 328) (c := x2 ≠ 36) (by decide +kernel) (ev_k_ne hx2 (by decide)) (by decide +kernel) ?_ ?_
                            · intro c37
                              refine ev_r_aload_n (pc := 328) (k := 0) (v := .ref 621) trivial (by decide +kernel) (by exact (ev_lk_st1 (by rfl) (by decide) rfl)) ?_
                              refine ev_r_iload_n (pc := 329) (k := 1) (v := Int32.ofInt x2) (by decide +kernel) (by exact ev_lk_st1_self) ?_
                              refine ev_r_iload_n (pc := 330) (k := 1) (v := Int32.ofInt x2) (by decide +kernel) (by exact ev_lk_st1_self) ?_
                              refine ev_r_aload_n (pc := 331) (k := 0) (v := .ref 621) trivial (by decide +kernel) (by exact (ev_lk_st1 (by rfl) (by decide) rfl)) ?_
                              refine ev_r_getI (pc := 332) (y := 384) (ci := 13) (f := 40) (fin := 0) (by decide +kernel) (by decide +kernel) (by exact ev_ob_621) rfl ?_
                              intro x38 hx38
                              refine ev_r_iconst (pc := 335) (k := 1) (by decide +kernel) ?_
                              refine ev_r_iand (pc := 336) (by decide +kernel) ?_
                              intro x39 hx39
                              refine ev_r_jn (Q := fun K => ∀ (x42 : Int) (hx42 : ev_rng x42), ∀ (x41 : Int) (hx41 : ev_rng x41), ∀ (x40 : Int) (hx40 : ev_rng x40), ∀ (s45 : ev_St) (w43 : List (Nat × Value)), ev_lk w43 0 = some (.ref 621) → ev_w none (ev_Mof 263) d 345 w43 [.int (Int32.ofInt x42), .int (Int32.ofInt x41), .int (Int32.ofInt x40), .ref 621] s45 (K x42 x41 x40 s45) ev_eU ev_PU) ?_ ?_
                              · intro x42 hx42 x41 hx41 x40 hx40 s45 w43 e44
                                refine ev_r_virt (pc := 345) (y := 442) (mi := 245) (na := 3) (k := 621) (as := [.int (Int32.ofInt x40), .int (Int32.ofInt x41), .int (Int32.ofInt x42)]) (rest := []) (encc := ev_oU) (Q := ev_PU) (fun x S1 h => jt_245 d (by omega) Q x40 x41 x42 hx40 hx41 hx42 s45 x S1 h) (by exact ev_ob_621) (by decide +kernel) (by decide +kernel) (by decide +kernel) (by decide +kernel) rfl (by (try simp only [ev_sum, ev_nv_cat]); first | done | rfl) ?_
                                intro _ s46 _
                                show ev_w _ _ _ _ _ [] _ _ _ _
                                refine ev_r_aload_n (pc := 348) (k := 0) (v := .ref 621) trivial (by decide +kernel) (by exact e44) ?_
                                refine ev_r_aload_n (pc := 349) (k := 0) (v := .ref 621) trivial (by decide +kernel) (by exact e44) ?_
                                refine ev_r_getL (pc := 350) (y := 394) (ci := 13) (f := 41) (fin := 0) (by decide +kernel) (by decide +kernel) (by exact ev_ob_621) rfl ?_
                                intro y47
                                refine ev_r_aload_n (pc := 353) (k := 0) (v := .ref 621) trivial (by decide +kernel) (by exact e44) ?_
                                refine ev_r_getL (pc := 354) (y := 398) (ci := 13) (f := 42) (fin := 0) (by decide +kernel) (by decide +kernel) (by exact ev_ob_621) rfl ?_
                                intro y48
                                refine ev_r_virt (pc := 357) (y := 449) (mi := 238) (na := 2) (k := 621) (as := [.long y47, .long y48]) (rest := []) (encc := ev_oU) (Q := ev_PU) (fun x S1 h => jt_238 d (by omega) Q y47 y48  s46 x S1 h) (by exact ev_ob_621) (by decide +kernel) (by decide +kernel) (by decide +kernel) (by decide +kernel) rfl (by (try simp only [ev_sum, ev_nv_cat]); first | done | rfl) ?_
                                intro _ s49 _
                                show ev_w _ _ _ _ _ [] _ _ _ _
                                exact ev_r_return (pc := 360) (x := ()) trivial (by decide +kernel) (by decide +kernel) rfl
                              · intro K345 hK345
                                refine ev_r_if (pc := 337) (q := .le) (o := 7) (t := 344) (c := x39 ≤ 0) (by decide +kernel) (ev_k_le hx39 ev_rng0) (by decide +kernel) ?_ ?_
                                · intro c50
                                  refine ev_r_iconst (pc := 344) (k := 0) (by decide +kernel) ?_
                                  exact hK345 0 (by decide) x2 hx2 x2 hx2 s16 _ (by exact (ev_lk_st1 (by rfl) (by decide) rfl))
                                · intro c50
                                  refine ev_r_iconst (pc := 340) (k := 1) (by decide +kernel) ?_
                                  refine ev_r_goto (pc := 341) (o := 4) (t := 345) (by decide +kernel) (by decide +kernel) ?_
                                  exact hK345 1 (by decide) x2 hx2 x2 hx2 s16 _ (by exact (ev_lk_st1 (by rfl) (by decide) rfl))
                            · intro c37
                              exact hK292  s16 _ (by exact (ev_lk_st1 (by rfl) (by decide) rfl)) (by exact ev_lk_st1_self)
                      · intro c17
                        refine ev_r_aload_n (pc := 252) (k := 0) (v := .ref 621) trivial (by decide +kernel) (by exact (ev_lk_st1 (by rfl) (by decide) rfl)) ?_
                        refine ev_r_aload_n (pc := 253) (k := 0) (v := .ref 621) trivial (by decide +kernel) (by exact (ev_lk_st1 (by rfl) (by decide) rfl)) ?_
                        refine ev_r_getI (pc := 254) (y := 384) (ci := 13) (f := 40) (fin := 0) (by decide +kernel) (by decide +kernel) (by exact ev_ob_621) rfl ?_
                        intro x51 hx51
                        refine ev_r_iconst (pc := 257) (k := 2) (by decide +kernel) ?_
                        refine ev_r_iand (pc := 258) (by decide +kernel) ?_
                        intro x52 hx52
                        refine ev_r_jn (Q := fun K => ∀ (y53 : Int64), ∀ (s55 : ev_St) (w54 : List (Nat × Value)), ev_w none (ev_Mof 263) d 271 w54 [.long y53, .ref 621] s55 (K y53 s55) ev_eU ev_PU) ?_ ?_
                        · intro y53 s55 w54 
                          refine ev_r_ldc2 (pc := 271) (y := 428) (k := 4294967295) (by decide +kernel) (by decide +kernel) ?_
                          refine ev_r_virt (pc := 274) (y := 449) (mi := 238) (na := 2) (k := 621) (as := [.long y53, .long ((4294967295))]) (rest := []) (encc := ev_oU) (Q := ev_PU) (fun x S1 h => jt_238 d (by omega) Q y53 ((4294967295))  s55 x S1 h) (by exact ev_ob_621) (by decide +kernel) (by decide +kernel) (by decide +kernel) (by decide +kernel) rfl (by (try simp only [ev_sum, ev_nv_cat]); first | done | rfl) ?_
                          intro _ s56 _
                          show ev_w _ _ _ _ _ [] _ _ _ _
                          refine ev_r_goto (pc := 277) (o := 83) (t := 360) (by decide +kernel) (by decide +kernel) ?_
                          exact ev_r_return (pc := 360) (x := ()) trivial (by decide +kernel) (by decide +kernel) rfl
                        · intro K271 hK271
                          refine ev_r_if (pc := 259) (q := .le) (o := 9) (t := 268) (c := x52 ≤ 0) (by decide +kernel) (ev_k_le hx52 ev_rng0) (by decide +kernel) ?_ ?_
                          · intro c57
                            refine ev_r_ldc2 (pc := 268) (y := 493) (k := -2) (by decide +kernel) (by decide +kernel) ?_
                            exact hK271 ((-2)) s16 _ 
                          · intro c57
                            refine ev_r_ldc2 (pc := 262) (y := 407) (k := -1) (by decide +kernel) (by decide +kernel) ?_
                            refine ev_r_goto (pc := 265) (o := 6) (t := 271) (by decide +kernel) (by decide +kernel) ?_
                            exact hK271 ((-1)) s16 _ 
                    · intro c15
                      refine ev_r_aload_n (pc := 229) (k := 0) (v := .ref 621) trivial (by decide +kernel) (by exact (ev_lk_st1 (by rfl) (by decide) rfl)) ?_
                      refine ev_r_iconst (pc := 230) (k := 1) (by decide +kernel) ?_
                      refine ev_r_virt (pc := 231) (y := 415) (mi := 234) (na := 1) (k := 621) (as := [.int (Int32.ofInt 1)]) (rest := []) (encc := ev_oU) (Q := ev_PU) (fun x S1 h => jt_234 d (by omega) Q 1 (by decide) s1 x S1 h) (by exact ev_ob_621) (by decide +kernel) (by decide +kernel) (by decide +kernel) (by decide +kernel) rfl (by (try simp only [ev_sum, ev_nv_cat]); first | done | rfl) ?_
                      intro _ s58 _
                      show ev_w _ _ _ _ _ [] _ _ _ _
                      refine ev_r_aload_n (pc := 234) (k := 0) (v := .ref 621) trivial (by decide +kernel) (by exact (ev_lk_st1 (by rfl) (by decide) rfl)) ?_
                      refine ev_r_virt (pc := 235) (y := 490) (mi := 241) (na := 0) (k := 621) (as := []) (rest := []) (encc := ev_oU) (Q := ev_PU) (fun x S1 h => jt_241 d (by omega) Q   s58 x S1 h) (by exact ev_ob_621) (by decide +kernel) (by decide +kernel) (by decide +kernel) (by decide +kernel) rfl (by (try simp only [ev_sum, ev_nv_cat]); first | done | rfl) ?_
                      intro _ s59 _
                      show ev_w _ _ _ _ _ [] _ _ _ _
                      refine ev_r_goto (pc := 238) (o := 122) (t := 360) (by decide +kernel) (by decide +kernel) ?_
                      exact ev_r_return (pc := 360) (x := ()) trivial (by decide +kernel) (by decide +kernel) rfl
                  · intro c14
                    refine ev_r_aload_n (pc := 166) (k := 0) (v := .ref 621) trivial (by decide +kernel) (by exact (ev_lk_st1 (by rfl) (by decide) rfl)) ?_
                    refine ev_r_iconst (pc := 167) (k := 1) (by decide +kernel) ?_
                    refine ev_r_virt (pc := 168) (y := 415) (mi := 234) (na := 1) (k := 621) (as := [.int (Int32.ofInt 1)]) (rest := []) (encc := ev_oU) (Q := ev_PU) (fun x S1 h => jt_234 d (by omega) Q 1 (by decide) s1 x S1 h) (by exact ev_ob_621) (by decide +kernel) (by decide +kernel) (by decide +kernel) (by decide +kernel) rfl (by (try simp only [ev_sum, ev_nv_cat]); first | done | rfl) ?_
                    intro _ s60 _
                    show ev_w _ _ _ _ _ [] _ _ _ _
                    refine ev_r_aload_n (pc := 171) (k := 0) (v := .ref 621) trivial (by decide +kernel) (by exact (ev_lk_st1 (by rfl) (by decide) rfl)) ?_
                    refine ev_r_aload_n (pc := 172) (k := 0) (v := .ref 621) trivial (by decide +kernel) (by exact (ev_lk_st1 (by rfl) (by decide) rfl)) ?_
                    refine ev_r_getI (pc := 173) (y := 352) (ci := 13) (f := 25) (fin := 0) (by decide +kernel) (by decide +kernel) (by exact ev_ob_621) rfl ?_
                    intro x61 hx61
                    refine ev_r_jn (Q := fun K => ∀ (x62 : Int) (hx62 : ev_rng x62), ∀ (s65 : ev_St) (w63 : List (Nat × Value)), ev_lk w63 0 = some (.ref 621) → ev_w none (ev_Mof 263) d 206 w63 [.int (Int32.ofInt x62), .ref 621] s65 (K x62 s65) ev_eU ev_PU) ?_ ?_
                    · intro x62 hx62 s65 w63 e64
                      refine ev_r_chk ?_
                      intro c67
                      refine ev_r_putI (pc := 206) (y := 352) (ci := 13) (f := 25) hx62 (by decide +kernel) (by decide +kernel) (by exact ev_ob_621) rfl (ev_fit_bl c67) ?_
                      intro s66
                      refine ev_r_aload_n (pc := 209) (k := 0) (v := .ref 621) trivial (by decide +kernel) (by exact e64) ?_
                      refine ev_r_getI (pc := 210) (y := 352) (ci := 13) (f := 25) (fin := 0) (by decide +kernel) (by decide +kernel) (by exact ev_ob_621) rfl ?_
                      intro x68 hx68
                      refine ev_r_if (pc := 213) (q := .ne) (o := 147) (t := 360) (c := x68 ≠ 0) (by decide +kernel) (ev_k_ne hx68 ev_rng0) (by decide +kernel) ?_ ?_
                      · intro c69
                        exact ev_r_return (pc := 360) (x := ()) trivial (by decide +kernel) (by decide +kernel) rfl
                      · intro c69
                        refine ev_r_aload_n (pc := 216) (k := 0) (v := .ref 621) trivial (by decide +kernel) (by exact e64) ?_
                        refine ev_r_virt (pc := 217) (y := 487) (mi := 240) (na := 0) (k := 621) (as := []) (rest := []) (encc := ev_oU) (Q := ev_PU) (fun x S1 h => jt_240 d (by omega) Q   s66 x S1 h) (by exact ev_ob_621) (by decide +kernel) (by decide +kernel) (by decide +kernel) (by decide +kernel) rfl (by (try simp only [ev_sum, ev_nv_cat]); first | done | rfl) ?_
                        intro _ s70 _
                        show ev_w _ _ _ _ _ [] _ _ _ _
                        refine ev_r_goto (pc := 220) (o := 140) (t := 360) (by decide +kernel) (by decide +kernel) ?_
                        exact ev_r_return (pc := 360) (x := ()) trivial (by decide +kernel) (by decide +kernel) rfl
                    · intro K206 hK206
                      refine ev_r_jn (Q := fun K => ∀ (s73 : ev_St) (w71 : List (Nat × Value)), ev_lk w71 0 = some (.ref 621) → ev_w none (ev_Mof 263) d 201 w71 [.ref 621] s73 (K  s73) ev_eU ev_PU) ?_ ?_
                      · intro  s73 w71 e72
                        refine ev_r_iconst (pc := 201) (k := 1) (by decide +kernel) ?_
                        refine ev_r_goto (pc := 202) (o := 4) (t := 206) (by decide +kernel) (by decide +kernel) ?_
                        exact hK206 1 (by decide) s73 _ (by exact e72)
                      · intro K201 hK201
                        refine ev_r_if (pc := 176) (q := .ne) (o := 25) (t := 201) (c := x61 ≠ 0) (by decide +kernel) (ev_k_ne hx61 ev_rng0) (by decide +kernel) ?_ ?_
                        · intro c74
                          exact hK201  s60 _ (by exact (ev_lk_st1 (by rfl) (by decide) rfl))
                        · intro c74
                          refine ev_r_aload_n (pc := 179) (k := 0) (v := .ref 621) trivial (by decide +kernel) (by exact (ev_lk_st1 (by rfl) (by decide) rfl)) ?_
                          refine ev_r_getI (pc := 180) (y := 381) (ci := 13) (f := 31) (fin := 0) (by decide +kernel) (by decide +kernel) (by exact ev_ob_621) rfl ?_
                          intro x75 hx75
                          refine ev_r_iconst (pc := 183) (k := 2) (by decide +kernel) ?_
                          refine ev_r_icmp (pc := 184) (q := .lt) (o := 17) (t := 201) (c := x75 < 2) (by decide +kernel) (ev_k_lt hx75 (by decide)) (by decide +kernel) ?_ ?_
                          · intro c76
                            exact hK201  s60 _ (by exact (ev_lk_st1 (by rfl) (by decide) rfl))
                          · intro c76
                            refine ev_r_aload_n (pc := 187) (k := 0) (v := .ref 621) trivial (by decide +kernel) (by exact (ev_lk_st1 (by rfl) (by decide) rfl)) ?_
                            refine ev_r_getC (pc := 188) (y := 95) (ci := 13) (f := 36) (fin := 1) (k' := 650) (by decide +kernel) (by decide +kernel) (by exact ev_ob_621) rfl rfl ?_
                            refine ev_r_aload_n (pc := 191) (k := 0) (v := .ref 621) trivial (by decide +kernel) (by exact (ev_lk_st1 (by rfl) (by decide) rfl)) ?_
                            refine ev_r_getI (pc := 192) (y := 381) (ci := 13) (f := 31) (fin := 0) (by decide +kernel) (by decide +kernel) (by exact ev_ob_621) rfl ?_
                            intro x77 hx77
                            refine ev_r_iconst (pc := 195) (k := 1) (by decide +kernel) ?_
                            refine ev_r_isub (pc := 196) (by decide +kernel) ?_
                            intro x78 hx78
                            refine ev_r_bald (pc := 197) (ty := .boolean) (Or.inr rfl) hx78 (by decide +kernel) (by exact ev_ab_650) ?_
                            intro x79 hx79
                            refine ev_r_if (pc := 198) (q := .eq) (o := 7) (t := 205) (c := x79 = 0) (by decide +kernel) (ev_k_eq hx79 ev_rng0) (by decide +kernel) ?_ ?_
                            · intro c80
                              refine ev_r_iconst (pc := 205) (k := 0) (by decide +kernel) ?_
                              exact hK206 0 (by decide) s60 _ (by exact (ev_lk_st1 (by rfl) (by decide) rfl))
                            · intro c80
                              exact hK201  s60 _ (by exact (ev_lk_st1 (by rfl) (by decide) rfl))
                · intro c13
                  refine ev_r_aload_n (pc := 81) (k := 0) (v := .ref 621) trivial (by decide +kernel) (by exact (ev_lk_st1 (by rfl) (by decide) rfl)) ?_
                  refine ev_r_iconst (pc := 82) (k := 1) (by decide +kernel) ?_
                  refine ev_r_virt (pc := 83) (y := 409) (mi := 233) (na := 1) (k := 621) (as := [.int (Int32.ofInt 1)]) (rest := []) (encc := ev_oI) (Q := ev_rng) (fun x S1 h => jt_233 d (by omega) Q 1 (by decide) s1 x S1 h) (by exact ev_ob_621) (by decide +kernel) (by decide +kernel) (by decide +kernel) (by decide +kernel) rfl (by (try simp only [ev_sum, ev_nv_cat]); first | done | rfl) ?_
                  intro x82 s81 hx82
                  show ev_w _ _ _ _ _ [.int (Int32.ofInt x82)] _ _ _ _
                  refine ev_r_bipush (pc := 86) (k := 63) (by decide +kernel) (by decide +kernel) ?_
                  refine ev_r_jn (Q := fun K => ∀ (x83 : Int) (hx83 : ev_rng x83), ∀ (s86 : ev_St) (w84 : List (Nat × Value)), ev_lk w84 0 = some (.ref 621) → ev_w none (ev_Mof 263) d 96 w84 [.int (Int32.ofInt x83)] s86 (K x83 s86) ev_eU ev_PU) ?_ ?_
                  · intro x83 hx83 s86 w84 e85
                    refine ev_r_istore_n (pc := 96) (k := 2) (by decide +kernel) (by decide +kernel) rfl ?_
                    refine ev_r_aload_n (pc := 97) (k := 0) (v := .ref 621) trivial (by decide +kernel) (by exact (ev_l1 e85 (by decide) (by decide))) ?_
                    refine ev_r_iconst (pc := 98) (k := 1) (by decide +kernel) ?_
                    refine ev_r_virt (pc := 99) (y := 409) (mi := 233) (na := 1) (k := 621) (as := [.int (Int32.ofInt 1)]) (rest := []) (encc := ev_oI) (Q := ev_rng) (fun x S1 h => jt_233 d (by omega) Q 1 (by decide) s86 x S1 h) (by exact ev_ob_621) (by decide +kernel) (by decide +kernel) (by decide +kernel) (by decide +kernel) rfl (by (try simp only [ev_sum, ev_nv_cat]); first | done | rfl) ?_
                    intro x88 s87 hx88
                    show ev_w _ _ _ _ _ [.int (Int32.ofInt x88)] _ _ _ _
                    refine ev_r_bipush (pc := 102) (k := 42) (by decide +kernel) (by decide +kernel) ?_
                    refine ev_r_jn (Q := fun K => ∀ (x89 : Int) (hx89 : ev_rng x89), ∀ (x90 : Int) (hx90 : ev_rng x90), ∀ (s94 : ev_St) (w91 : List (Nat × Value)), ev_lk w91 0 = some (.ref 621) → ev_lk w91 2 = some (.int (Int32.ofInt x89)) → ev_w none (ev_Mof 263) d 112 w91 [.int (Int32.ofInt x90)] s94 (K x89 x90 s94) ev_eU ev_PU) ?_ ?_
                    · intro x89 hx89 x90 hx90 s94 w91 e92 e93
                      refine ev_r_istore_n (pc := 112) (k := 3) (by decide +kernel) (by decide +kernel) rfl ?_
                      refine ev_r_aload_n (pc := 113) (k := 0) (v := .ref 621) trivial (by decide +kernel) (by exact (ev_l1 e92 (by decide) (by decide))) ?_
                      refine ev_r_iload_n (pc := 114) (k := 2) (v := Int32.ofInt x89) (by decide +kernel) (by exact (ev_lk_st1 e93 (by decide) rfl)) ?_
                      refine ev_r_jn (Q := fun K => ∀ (x95 : Int) (hx95 : ev_rng x95), ∀ (x96 : Int) (hx96 : ev_rng x96), ∀ (s101 : ev_St) (w97 : List (Nat × Value)), ev_lk w97 0 = some (.ref 621) → ev_lk w97 2 = some (.int (Int32.ofInt x89)) → ev_lk w97 3 = some (.int (Int32.ofInt x95)) → ev_w none (ev_Mof 263) d 127 w97 [.int (Int32.ofInt x96), .ref 621] s101 (K x95 x96 s101) ev_eU ev_PU) ?_ ?_
                      · intro x95 hx95 x96 hx96 s101 w97 e98 e99 e100
                        refine ev_r_virt (pc := 127) (y := 415) (mi := 234) (na := 1) (k := 621) (as := [.int (Int32.ofInt x96)]) (rest := []) (encc := ev_oU) (Q := ev_PU) (fun x S1 h => jt_234 d (by omega) Q x96 hx96 s101 x S1 h) (by exact ev_ob_621) (by decide +kernel) (by decide +kernel) (by decide +kernel) (by decide +kernel) rfl (by (try simp only [ev_sum, ev_nv_cat]); first | done | rfl) ?_
                        intro _ s102 _
                        show ev_w _ _ _ _ _ [] _ _ _ _
                        refine ev_r_iload_n (pc := 130) (k := 2) (v := Int32.ofInt x89) (by decide +kernel) (by exact e99) ?_
                        refine ev_r_if (pc := 131) (q := .eq) (o := 10) (t := 141) (c := x89 = 0) (by decide +kernel) (ev_k_eq hx89 ev_rng0) (by decide +kernel) ?_ ?_
                        · intro c103
                          refine ev_r_iload_n (pc := 141) (k := 3) (v := Int32.ofInt x95) (by decide +kernel) (by exact e100) ?_
                          refine ev_r_if (pc := 142) (q := .eq) (o := 10) (t := 152) (c := x95 = 0) (by decide +kernel) (ev_k_eq hx95 ev_rng0) (by decide +kernel) ?_ ?_
                          · intro c104
                            refine ev_r_aload_n (pc := 152) (k := 0) (v := .ref 621) trivial (by decide +kernel) (by exact e98) ?_
                            refine ev_r_iconst (pc := 153) (k := -1) (by decide +kernel) ?_
                            refine ev_r_virt (pc := 154) (y := 463) (mi := 259) (na := 1) (k := 621) (as := [.int (Int32.ofInt ((-1)))]) (rest := []) (encc := ev_oU) (Q := ev_PU) (fun x S1 h => jt_259 d (by omega) Q ((-1)) (by decide) s102 x S1 h) (by exact ev_ob_621) (by decide +kernel) (by decide +kernel) (by decide +kernel) (by decide +kernel) rfl (by (try simp only [ev_sum, ev_nv_cat]); first | done | rfl) ?_
                            intro _ s105 _
                            show ev_w _ _ _ _ _ [] _ _ _ _
                            refine ev_r_goto (pc := 157) (o := 203) (t := 360) (by decide +kernel) (by decide +kernel) ?_
                            exact ev_r_return (pc := 360) (x := ()) trivial (by decide +kernel) (by decide +kernel) rfl
                          · intro c104
                            refine ev_r_aload_n (pc := 145) (k := 0) (v := .ref 621) trivial (by decide +kernel) (by exact e98) ?_
                            refine ev_r_virt (pc := 146) (y := 484) (mi := 262) (na := 0) (k := 621) (as := []) (rest := []) (encc := ev_oU) (Q := ev_PU) (fun x S1 h => jt_262 d (by omega) Q   s102 x S1 h) (by exact ev_ob_621) (by decide +kernel) (by decide +kernel) (by decide +kernel) (by decide +kernel) rfl (by (try simp only [ev_sum, ev_nv_cat]); first | done | rfl) ?_
                            intro _ s106 _
                            show ev_w _ _ _ _ _ [] _ _ _ _
                            refine ev_r_goto (pc := 149) (o := 8) (t := 157) (by decide +kernel) (by decide +kernel) ?_
                            refine ev_r_goto (pc := 157) (o := 203) (t := 360) (by decide +kernel) (by decide +kernel) ?_
                            exact ev_r_return (pc := 360) (x := ()) trivial (by decide +kernel) (by decide +kernel) rfl
                        · intro c103
                          refine ev_r_aload_n (pc := 134) (k := 0) (v := .ref 621) trivial (by decide +kernel) (by exact e98) ?_
                          refine ev_r_virt (pc := 135) (y := 481) (mi := 261) (na := 0) (k := 621) (as := []) (rest := []) (encc := ev_oU) (Q := ev_PU) (fun x S1 h => jt_261 d (by omega) Q   s102 x S1 h) (by exact ev_ob_621) (by decide +kernel) (by decide +kernel) (by decide +kernel) (by decide +kernel) rfl (by (try simp only [ev_sum, ev_nv_cat]); first | done | rfl) ?_
                          intro _ s107 _
                          show ev_w _ _ _ _ _ [] _ _ _ _
                          refine ev_r_goto (pc := 138) (o := 19) (t := 157) (by decide +kernel) (by decide +kernel) ?_
                          refine ev_r_goto (pc := 157) (o := 203) (t := 360) (by decide +kernel) (by decide +kernel) ?_
                          exact ev_r_return (pc := 360) (x := ()) trivial (by decide +kernel) (by decide +kernel) rfl
                      · intro K127 hK127
                        refine ev_r_jn (Q := fun K => ∀ (x108 : Int) (hx108 : ev_rng x108), ∀ (s113 : ev_St) (w109 : List (Nat × Value)), ev_lk w109 0 = some (.ref 621) → ev_lk w109 2 = some (.int (Int32.ofInt x89)) → ev_lk w109 3 = some (.int (Int32.ofInt x108)) → ev_w none (ev_Mof 263) d 122 w109 [.ref 621] s113 (K x108 s113) ev_eU ev_PU) ?_ ?_
                        · intro x108 hx108 s113 w109 e110 e111 e112
                          refine ev_r_iconst (pc := 122) (k := 2) (by decide +kernel) ?_
                          refine ev_r_goto (pc := 123) (o := 4) (t := 127) (by decide +kernel) (by decide +kernel) ?_
                          exact hK127 x108 hx108 2 (by decide) s113 _ (by exact e110) (by exact e111) (by exact e112)
                        · intro K122 hK122
                          refine ev_r_if (pc := 115) (q := .ne) (o := 7) (t := 122) (c := x89 ≠ 0) (by decide +kernel) (ev_k_ne hx89 ev_rng0) (by decide +kernel) ?_ ?_
                          · intro c114
                            exact hK122 x90 hx90 s94 _ (by exact (ev_l1 e92 (by decide) (by decide))) (by exact (ev_lk_st1 e93 (by decide) rfl)) (by exact ev_lk_st1_self)
                          · intro c114
                            refine ev_r_iload_n (pc := 118) (k := 3) (v := Int32.ofInt x90) (by decide +kernel) (by exact ev_lk_st1_self) ?_
                            refine ev_r_if (pc := 119) (q := .eq) (o := 7) (t := 126) (c := x90 = 0) (by decide +kernel) (ev_k_eq hx90 ev_rng0) (by decide +kernel) ?_ ?_
                            · intro c115
                              refine ev_r_iconst (pc := 126) (k := 1) (by decide +kernel) ?_
                              exact hK127 x90 hx90 1 (by decide) s94 _ (by exact (ev_l1 e92 (by decide) (by decide))) (by exact (ev_lk_st1 e93 (by decide) rfl)) (by exact ev_lk_st1_self)
                            · intro c115
                              exact hK122 x90 hx90 s94 _ (by exact (ev_l1 e92 (by decide) (by decide))) (by exact (ev_lk_st1 e93 (by decide) rfl)) (by exact ev_lk_st1_self)
                    · intro K112 hK112
                      refine ev_r_icmp (pc := 104) (q := .ne) (o := 7) (t := 111) (c := x88 ≠ 42) (by decide +kernel) (ev_k_ne hx88 (by decide)) (by decide +kernel) ?_ ?_
                      · intro c116
                        refine ev_r_iconst (pc := 111) (k := 0) (by decide +kernel) ?_
                        exact hK112 x83 hx83 0 (by decide) s87 _ (by exact (ev_l1 e85 (by decide) (by decide))) (by exact ev_lk_st1_self)
                      · intro c116
                        refine ev_r_iconst (pc := 107) (k := 1) (by decide +kernel) ?_
                        refine ev_r_goto (pc := 108) (o := 4) (t := 112) (by decide +kernel) (by decide +kernel) ?_
                        exact hK112 x83 hx83 1 (by decide) s87 _ (by exact (ev_l1 e85 (by decide) (by decide))) (by exact ev_lk_st1_self)
                  · intro K96 hK96
                    refine ev_r_icmp (pc := 88) (q := .ne) (o := 7) (t := 95) (c := x82 ≠ 63) (by decide +kernel) (ev_k_ne hx82 (by decide)) (by decide +kernel) ?_ ?_
                    · intro c117
                      refine ev_r_iconst (pc := 95) (k := 0) (by decide +kernel) ?_
                      exact hK96 0 (by decide) s81 _ (by exact (ev_lk_st1 (by rfl) (by decide) rfl))
                    · intro c117
                      refine ev_r_iconst (pc := 91) (k := 1) (by decide +kernel) ?_
                      refine ev_r_goto (pc := 92) (o := 4) (t := 96) (by decide +kernel) (by decide +kernel) ?_
                      exact hK96 1 (by decide) s81 _ (by exact (ev_lk_st1 (by rfl) (by decide) rfl))
              · intro c12
                refine ev_r_aload_n (pc := 56) (k := 0) (v := .ref 621) trivial (by decide +kernel) (by exact (ev_lk_st1 (by rfl) (by decide) rfl)) ?_
                refine ev_r_virt (pc := 57) (y := 478) (mi := 253) (na := 0) (k := 621) (as := []) (rest := []) (encc := ev_oU) (Q := ev_PU) (fun x S1 h => jt_253 d (by omega) Q   s1 x S1 h) (by exact ev_ob_621) (by decide +kernel) (by decide +kernel) (by decide +kernel) (by decide +kernel) rfl (by (try simp only [ev_sum, ev_nv_cat]); first | done | rfl) ?_
                intro _ s118 _
                show ev_w _ _ _ _ _ [] _ _ _ _
                refine ev_r_aload_n (pc := 60) (k := 0) (v := .ref 621) trivial (by decide +kernel) (by exact (ev_lk_st1 (by rfl) (by decide) rfl)) ?_
                refine ev_r_aload_n (pc := 61) (k := 0) (v := .ref 621) trivial (by decide +kernel) (by exact (ev_lk_st1 (by rfl) (by decide) rfl)) ?_
                refine ev_r_getL (pc := 62) (y := 394) (ci := 13) (f := 41) (fin := 0) (by decide +kernel) (by decide +kernel) (by exact ev_ob_621) rfl ?_
                intro y119
                refine ev_r_aload_n (pc := 65) (k := 0) (v := .ref 621) trivial (by decide +kernel) (by exact (ev_lk_st1 (by rfl) (by decide) rfl)) ?_
                refine ev_r_getL (pc := 66) (y := 398) (ci := 13) (f := 42) (fin := 0) (by decide +kernel) (by decide +kernel) (by exact ev_ob_621) rfl ?_
                intro y120
                refine ev_r_virt (pc := 69) (y := 449) (mi := 238) (na := 2) (k := 621) (as := [.long y119, .long y120]) (rest := []) (encc := ev_oU) (Q := ev_PU) (fun x S1 h => jt_238 d (by omega) Q y119 y120  s118 x S1 h) (by exact ev_ob_621) (by decide +kernel) (by decide +kernel) (by decide +kernel) (by decide +kernel) rfl (by (try simp only [ev_sum, ev_nv_cat]); first | done | rfl) ?_
                intro _ s121 _
                show ev_w _ _ _ _ _ [] _ _ _ _
                refine ev_r_goto (pc := 72) (o := 288) (t := 360) (by decide +kernel) (by decide +kernel) ?_
                exact ev_r_return (pc := 360) (x := ()) trivial (by decide +kernel) (by decide +kernel) rfl
            · intro c11
              refine ev_r_aload_n (pc := 43) (k := 0) (v := .ref 621) trivial (by decide +kernel) (by exact (ev_lk_st1 (by rfl) (by decide) rfl)) ?_
              refine ev_r_virt (pc := 44) (y := 475) (mi := 256) (na := 0) (k := 621) (as := []) (rest := []) (encc := ev_oU) (Q := ev_PU) (fun x S1 h => jt_256 d (by omega) Q   s1 x S1 h) (by exact ev_ob_621) (by decide +kernel) (by decide +kernel) (by decide +kernel) (by decide +kernel) rfl (by (try simp only [ev_sum, ev_nv_cat]); first | done | rfl) ?_
              intro _ s122 _
              show ev_w _ _ _ _ _ [] _ _ _ _
              refine ev_r_goto (pc := 47) (o := 313) (t := 360) (by decide +kernel) (by decide +kernel) ?_
              exact ev_r_return (pc := 360) (x := ()) trivial (by decide +kernel) (by decide +kernel) rfl
          · intro c10
            exact hK30  s1 _ (by exact (ev_lk_st1 (by rfl) (by decide) rfl))
def jb_264_5 (Q : Nat)   (K5 : Int → ev_St → Option ((Unit) × ev_St)) (x3 : Int) (s7 : ev_St) : Option ((Unit) × ev_St) := ev_bd (jm_232 Q  s7) fun x9 s8 => ev_if ((0 : Int) ≤ 12 ∧ 12 < (ev_aln 635 : Int)) (ev_b (s8.1 635 (Int.toNat 12)) fun x10 => ev_ck (x9 + x10) fun x11 => if x11 ≤ x3 then (some ((), s8)) else (ev_if ((0 : Int) ≤ x3 ∧ x3 < (ev_aln 625 : Int)) (ev_b (s8.1 625 (Int.toNat x3)) fun x13 => ev_jn (fun  (s17 : ev_St) => ev_if ((0 : Int) ≤ x3 ∧ x3 < (ev_aln 625 : Int)) (ev_b (s17.1 625 (Int.toNat x3)) fun x18 => ev_jn (fun (x19 : Int) (s23 : ev_St) => ev_b (s23.1 621 25) fun x24 => ev_jn (fun (x25 : Int) (s29 : ev_St) => ev_if (ev_bl x25) (ev_b (ev_pI s29 621 25 x25) fun s30 => ev_ck (x3 + 1) fun x32 => K5 x32 s30)) fun K159 => ev_jn (fun  (s36 : ev_St) => K159 1 s36) fun K154 => if x24 ≠ 0 then (K154  s23) else (ev_jn (fun  (s41 : ev_St) => K159 0 s41) fun K158 => if x19 = 0 then (K158  s23) else (ev_if ((0 : Int) ≤ x3 ∧ x3 < (ev_aln 628 : Int)) (ev_b (s23.1 628 (Int.toNat x3)) fun x43 => ev_if ((0 : Int) ≤ 12 ∧ 12 < (ev_aln 636 : Int)) (ev_b (s23.1 636 (Int.toNat 12)) fun x44 => if x43 ≤ x44 then (K158  s23) else (K154  s23)))))) fun K125 => ev_jn (fun  (s49 : ev_St) => K125 1 s49) fun K120 => if x18 = 7 then (K120  s17) else (ev_if ((0 : Int) ≤ x3 ∧ x3 < (ev_aln 625 : Int)) (ev_b (s17.1 625 (Int.toNat x3)) fun x51 => if x51 = 13 then (K120  s17) else (ev_if ((0 : Int) ≤ x3 ∧ x3 < (ev_aln 625 : Int)) (ev_b (s17.1 625 (Int.toNat x3)) fun x53 => if x53 ≠ 14 then (K125 0 s17) else (K120  s17))))))) fun K87 => if x13 ≠ 7 then (K87  s8) else (ev_if ((0 : Int) ≤ x3 ∧ x3 < (ev_aln 628 : Int)) (ev_b (s8.1 628 (Int.toNat x3)) fun x56 => if 0 ≤ x56 then (K87  s8) else (ev_if ((0 : Int) ≤ x3 ∧ x3 < (ev_aln 628 : Int)) (ev_b (s8.1 628 (Int.toNat x3)) fun x58 => ev_ck (311 - x58) fun x59 => ev_if ((0 : Int) ≤ x59 ∧ x59 < (ev_aln 638 : Int)) (ev_b (s8.1 638 (Int.toNat x59)) fun x60 => ev_if ((0 : Int) ≤ x3 ∧ x3 < (ev_aln 628 : Int)) (ev_b (ev_pI s8 628 (Int.toNat x3) x60) fun s61 => ev_b (s61.1 621 25) fun x62 => ev_jn (fun (x63 : Int) (s67 : ev_St) => ev_if (ev_bl x63) (ev_b (ev_pI s67 621 25 x63) fun s68 => K87  s68)) fun K84 => ev_jn (fun  (s73 : ev_St) => K84 1 s73) fun K79 => if x62 ≠ 0 then (K79  s61) else (ev_if ((0 : Int) ≤ x3 ∧ x3 < (ev_aln 628 : Int)) (ev_b (s61.1 628 (Int.toNat x3)) fun x75 => if x75 ≠ 0 then (K84 0 s61) else (K79  s61))))))))))))
def jl_264_5 (Q : Nat)   : Nat → Int → ev_St → Option ((Unit) × ev_St)
  | 0 => fun _ _ => none
  | q + 1 => jb_264_5 Q   (jl_264_5 Q   q)
theorem jbt_264_5 (d : Nat) (hd : 2 ≤ d + 1) (Q : Nat)     (K5 : Int → ev_St → Option ((Unit) × ev_St)) (hK5 : ∀ (x3 : Int) (hx3 : ev_rng x3), ∀ (s7 : ev_St) (w4 : List (Nat × Value)), ev_lk w4 0 = some (.ref 621) → ev_lk w4 1 = some (.int (Int32.ofInt x3)) → ev_w none (ev_Mof 264) d 5 w4 [] s7 (K5 x3 s7) ev_eU ev_PU) : ∀ (x3 : Int) (hx3 : ev_rng x3), ∀ (s7 : ev_St) (w4 : List (Nat × Value)), ev_lk w4 0 = some (.ref 621) → ev_lk w4 1 = some (.int (Int32.ofInt x3)) → ev_w none (ev_Mof 264) d 5 w4 [] s7 (jb_264_5 Q   K5 x3 s7) ev_eU ev_PU := by
  intro x3 hx3 s7 w4 e5 e6
  unfold jb_264_5
  refine ev_r_iload_n (pc := 5) (k := 1) (v := Int32.ofInt x3) (by decide +kernel) (by exact e6) ?_
  refine ev_r_aload_n (pc := 6) (k := 0) (v := .ref 621) trivial (by decide +kernel) (by exact e5) ?_
  refine ev_r_virt (pc := 7) (y := 356) (mi := 232) (na := 0) (k := 621) (as := []) (rest := [.int (Int32.ofInt x3)]) (encc := ev_oI) (Q := ev_rng) (fun x S1 h => jt_232 d (by omega) Q   s7 x S1 h) (by exact ev_ob_621) (by decide +kernel) (by decide +kernel) (by decide +kernel) (by decide +kernel) rfl (by (try simp only [ev_sum, ev_nv_cat]); first | done | rfl) ?_
  intro x9 s8 hx9
  show ev_w _ _ _ _ _ [.int (Int32.ofInt x9), .int (Int32.ofInt x3)] _ _ _ _
  refine ev_r_aload_n (pc := 10) (k := 0) (v := .ref 621) trivial (by decide +kernel) (by exact e5) ?_
  refine ev_r_getC (pc := 11) (y := 50) (ci := 13) (f := 16) (fin := 1) (k' := 635) (by decide +kernel) (by decide +kernel) (by exact ev_ob_621) rfl rfl ?_
  refine ev_r_bipush (pc := 14) (k := 12) (by decide +kernel) (by decide +kernel) ?_
  refine ev_r_iald (pc := 16) (by decide) (by decide +kernel) (by exact ev_ab_635) ?_
  intro x10 hx10
  refine ev_r_iadd (pc := 17) (by decide +kernel) ?_
  intro x11 hx11
  refine ev_r_icmp (pc := 18) (q := .ge) (o := 150) (t := 168) (c := x11 ≤ x3) (by decide +kernel) (ev_k_ge hx3 hx11) (by decide +kernel) ?_ ?_
  · intro c12
    exact ev_r_return (pc := 168) (x := ()) trivial (by decide +kernel) (by decide +kernel) rfl
  · intro c12
    refine ev_r_aload_n (pc := 21) (k := 0) (v := .ref 621) trivial (by decide +kernel) (by exact e5) ?_
    refine ev_r_getC (pc := 22) (y := 19) (ci := 13) (f := 6) (fin := 1) (k' := 625) (by decide +kernel) (by decide +kernel) (by exact ev_ob_621) rfl rfl ?_
    refine ev_r_iload_n (pc := 25) (k := 1) (v := Int32.ofInt x3) (by decide +kernel) (by exact e6) ?_
    refine ev_r_iald (pc := 26) hx3 (by decide +kernel) (by exact ev_ab_625) ?_
    intro x13 hx13
    refine ev_r_bipush (pc := 27) (k := 7) (by decide +kernel) (by decide +kernel) ?_
    refine ev_r_jn (Q := fun K => ∀ (s17 : ev_St) (w14 : List (Nat × Value)), ev_lk w14 0 = some (.ref 621) → ev_lk w14 1 = some (.int (Int32.ofInt x3)) → ev_w none (ev_Mof 264) d 87 w14 [] s17 (K  s17) ev_eU ev_PU) ?_ ?_
    · intro  s17 w14 e15 e16
      refine ev_r_aload_n (pc := 87) (k := 0) (v := .ref 621) trivial (by decide +kernel) (by exact e15) ?_
      refine ev_r_getC (pc := 88) (y := 19) (ci := 13) (f := 6) (fin := 1) (k' := 625) (by decide +kernel) (by decide +kernel) (by exact ev_ob_621) rfl rfl ?_
      refine ev_r_iload_n (pc := 91) (k := 1) (v := Int32.ofInt x3) (by decide +kernel) (by exact e16) ?_
      refine ev_r_iald (pc := 92) hx3 (by decide +kernel) (by exact ev_ab_625) ?_
      intro x18 hx18
      refine ev_r_bipush (pc := 93) (k := 7) (by decide +kernel) (by decide +kernel) ?_
      refine ev_r_jn (Q := fun K => ∀ (x19 : Int) (hx19 : ev_rng x19), ∀ (s23 : ev_St) (w20 : List (Nat × Value)), ev_lk w20 0 = some (.ref 621) → ev_lk w20 1 = some (.int (Int32.ofInt x3)) → ev_w none (ev_Mof 264) d 125 w20 [.int (Int32.ofInt x19)] s23 (K x19 s23) ev_eU ev_PU) ?_ ?_
      · intro x19 hx19 s23 w20 e21 e22
        refine ev_r_istore_n (pc := 125) (k := 2) (by decide +kernel) (by decide +kernel) rfl ?_
        refine ev_r_aload_n (pc := 126) (k := 0) (v := .ref 621) trivial (by decide +kernel) (by exact (ev_l1 e21 (by decide) (by decide))) ?_
        refine ev_r_aload_n (pc := 127) (k := 0) (v := .ref 621) trivial (by decide +kernel) (by exact (ev_l1 e21 (by decide) (by decide))) ?_
        refine ev_r_getI (pc := 128) (y := 352) (ci := 13) (f := 25) (fin := 0) (by decide +kernel) (by decide +kernel) (by exact ev_ob_621) rfl ?_
        intro x24 hx24
        refine ev_r_jn (Q := fun K => ∀ (x25 : Int) (hx25 : ev_rng x25), ∀ (s29 : ev_St) (w26 : List (Nat × Value)), ev_lk w26 0 = some (.ref 621) → ev_lk w26 1 = some (.int (Int32.ofInt x3)) → ev_w none (ev_Mof 264) d 159 w26 [.int (Int32.ofInt x25), .ref 621] s29 (K x25 s29) ev_eU ev_PU) ?_ ?_
        · intro x25 hx25 s29 w26 e27 e28
          refine ev_r_chk ?_
          intro c31
          refine ev_r_putI (pc := 159) (y := 352) (ci := 13) (f := 25) hx25 (by decide +kernel) (by decide +kernel) (by exact ev_ob_621) rfl (ev_fit_bl c31) ?_
          intro s30
          refine ev_r_iinc (pc := 162) (k := 1) (c := 1) (x := x3) (by decide +kernel) (by decide +kernel) (by exact e28) (fun _ => rfl) ?_
          intro x32 hx32
          refine ev_r_goto (pc := 165) (o := (-160)) (t := 5) (by decide +kernel) (by decide +kernel) ?_
          exact hK5 x32 hx32 s30 _ (by exact (ev_lk_st1 e27 (by decide) rfl)) (by exact ev_lk_st1_self)
        · intro K159 hK159
          refine ev_r_jn (Q := fun K => ∀ (s36 : ev_St) (w33 : List (Nat × Value)), ev_lk w33 0 = some (.ref 621) → ev_lk w33 1 = some (.int (Int32.ofInt x3)) → ev_w none (ev_Mof 264) d 154 w33 [.ref 621] s36 (K  s36) ev_eU ev_PU) ?_ ?_
          · intro  s36 w33 e34 e35
            refine ev_r_iconst (pc := 154) (k := 1) (by decide +kernel) ?_
            refine ev_r_goto (pc := 155) (o := 4) (t := 159) (by decide +kernel) (by decide +kernel) ?_
            exact hK159 1 (by decide) s36 _ (by exact e34) (by exact e35)
          · intro K154 hK154
            refine ev_r_if (pc := 131) (q := .ne) (o := 23) (t := 154) (c := x24 ≠ 0) (by decide +kernel) (ev_k_ne hx24 ev_rng0) (by decide +kernel) ?_ ?_
            · intro c37
              exact hK154  s23 _ (by exact (ev_l1 e21 (by decide) (by decide))) (by exact (ev_lk_st1 e22 (by decide) rfl))
            · intro c37
              refine ev_r_iload_n (pc := 134) (k := 2) (v := Int32.ofInt x19) (by decide +kernel) (by exact ev_lk_st1_self) ?_
              refine ev_r_jn (Q := fun K => ∀ (s41 : ev_St) (w38 : List (Nat × Value)), ev_lk w38 0 = some (.ref 621) → ev_lk w38 1 = some (.int (Int32.ofInt x3)) → ev_w none (ev_Mof 264) d 158 w38 [.ref 621] s41 (K  s41) ev_eU ev_PU) ?_ ?_
              · intro  s41 w38 e39 e40
                refine ev_r_iconst (pc := 158) (k := 0) (by decide +kernel) ?_
                exact hK159 0 (by decide) s41 _ (by exact e39) (by exact e40)
              · intro K158 hK158
                refine ev_r_if (pc := 135) (q := .eq) (o := 23) (t := 158) (c := x19 = 0) (by decide +kernel) (ev_k_eq hx19 ev_rng0) (by decide +kernel) ?_ ?_
                · intro c42
                  exact hK158  s23 _ (by exact (ev_l1 e21 (by decide) (by decide))) (by exact (ev_lk_st1 e22 (by decide) rfl))
                · intro c42
                  refine ev_r_aload_n (pc := 138) (k := 0) (v := .ref 621) trivial (by decide +kernel) (by exact (ev_l1 e21 (by decide) (by decide))) ?_
                  refine ev_r_getC (pc := 139) (y := 28) (ci := 13) (f := 9) (fin := 1) (k' := 628) (by decide +kernel) (by decide +kernel) (by exact ev_ob_621) rfl rfl ?_
                  refine ev_r_iload_n (pc := 142) (k := 1) (v := Int32.ofInt x3) (by decide +kernel) (by exact (ev_lk_st1 e22 (by decide) rfl)) ?_
                  refine ev_r_iald (pc := 143) hx3 (by decide +kernel) (by exact ev_ab_628) ?_
                  intro x43 hx43
                  refine ev_r_aload_n (pc := 144) (k := 0) (v := .ref 621) trivial (by decide +kernel) (by exact (ev_l1 e21 (by decide) (by decide))) ?_
                  refine ev_r_getC (pc := 145) (y := 53) (ci := 13) (f := 17) (fin := 1) (k' := 636) (by decide +kernel) (by decide +kernel) (by exact ev_ob_621) rfl rfl ?_
                  refine ev_r_bipush (pc := 148) (k := 12) (by decide +kernel) (by decide +kernel) ?_
                  refine ev_r_iald (pc := 150) (by decide) (by decide +kernel) (by exact ev_ab_636) ?_
                  intro x44 hx44
                  refine ev_r_icmp (pc := 151) (q := .le) (o := 7) (t := 158) (c := x43 ≤ x44) (by decide +kernel) (ev_k_le hx43 hx44) (by decide +kernel) ?_ ?_
                  · intro c45
                    exact hK158  s23 _ (by exact (ev_l1 e21 (by decide) (by decide))) (by exact (ev_lk_st1 e22 (by decide) rfl))
                  · intro c45
                    exact hK154  s23 _ (by exact (ev_l1 e21 (by decide) (by decide))) (by exact (ev_lk_st1 e22 (by decide) rfl))
      · intro K125 hK125
        refine ev_r_jn (Q := fun K => ∀ (s49 : ev_St) (w46 : List (Nat × Value)), ev_lk w46 0 = some (.ref 621) → ev_lk w46 1 = some (.int (Int32.ofInt x3)) → ev_w none (ev_Mof 264) d 120 w46 [] s49 (K  s49) ev_eU ev_PU) ?_ ?_
        · intro  s49 w46 e47 e48
          refine ev_r_iconst (pc := 120) (k := 1) (by decide +kernel) ?_
          refine ev_r_goto (pc := 121) (o := 4) (t := 125) (by decide +kernel) (by decide +kernel) ?_
          exact hK125 1 (by decide) s49 _ (by exact e47) (by exact e48)
        · intro K120 hK120
          refine ev_r_icmp (pc := 95) (q := .eq) (o := 25) (t := 120) (c := x18 = 7) (by decide +kernel) (ev_k_eq hx18 (by decide)) (by decide +kernel) ?_ ?_
          · intro c50
            exact hK120  s17 _ (by exact e15) (by exact e16)
          · intro c50
            refine ev_r_aload_n (pc := 98) (k := 0) (v := .ref 621) trivial (by decide +kernel) (by exact e15) ?_
            refine ev_r_getC (pc := 99) (y := 19) (ci := 13) (f := 6) (fin := 1) (k' := 625) (by decide +kernel) (by decide +kernel) (by exact ev_ob_621) rfl rfl ?_
            refine ev_r_iload_n (pc := 102) (k := 1) (v := Int32.ofInt x3) (by decide +kernel) (by exact e16) ?_
            refine ev_r_iald (pc := 103) hx3 (by decide +kernel) (by exact ev_ab_625) ?_
            intro x51 hx51
            refine ev_r_bipush (pc := 104) (k := 13) (by decide +kernel) (by decide +kernel) ?_
            refine ev_r_icmp (pc := 106) (q := .eq) (o := 14) (t := 120) (c := x51 = 13) (by decide +kernel) (ev_k_eq hx51 (by decide)) (by decide +kernel) ?_ ?_
            · intro c52
              exact hK120  s17 _ (by exact e15) (by exact e16)
            · intro c52
              refine ev_r_aload_n (pc := 109) (k := 0) (v := .ref 621) trivial (by decide +kernel) (by exact e15) ?_
              refine ev_r_getC (pc := 110) (y := 19) (ci := 13) (f := 6) (fin := 1) (k' := 625) (by decide +kernel) (by decide +kernel) (by exact ev_ob_621) rfl rfl ?_
              refine ev_r_iload_n (pc := 113) (k := 1) (v := Int32.ofInt x3) (by decide +kernel) (by exact e16) ?_
              refine ev_r_iald (pc := 114) hx3 (by decide +kernel) (by exact ev_ab_625) ?_
              intro x53 hx53
              refine ev_r_bipush (pc := 115) (k := 14) (by decide +kernel) (by decide +kernel) ?_
              refine ev_r_icmp (pc := 117) (q := .ne) (o := 7) (t := 124) (c := x53 ≠ 14) (by decide +kernel) (ev_k_ne hx53 (by decide)) (by decide +kernel) ?_ ?_
              · intro c54
                refine ev_r_iconst (pc := 124) (k := 0) (by decide +kernel) ?_
                exact hK125 0 (by decide) s17 _ (by exact e15) (by exact e16)
              · intro c54
                exact hK120  s17 _ (by exact e15) (by exact e16)
    · intro K87 hK87
      refine ev_r_icmp (pc := 29) (q := .ne) (o := 58) (t := 87) (c := x13 ≠ 7) (by decide +kernel) (ev_k_ne hx13 (by decide)) (by decide +kernel) ?_ ?_
      · intro c55
        exact hK87  s8 _ (by exact e5) (by exact e6)
      · intro c55
        refine ev_r_aload_n (pc := 32) (k := 0) (v := .ref 621) trivial (by decide +kernel) (by exact e5) ?_
        refine ev_r_getC (pc := 33) (y := 28) (ci := 13) (f := 9) (fin := 1) (k' := 628) (by decide +kernel) (by decide +kernel) (by exact ev_ob_621) rfl rfl ?_
        refine ev_r_iload_n (pc := 36) (k := 1) (v := Int32.ofInt x3) (by decide +kernel) (by exact e6) ?_
        refine ev_r_iald (pc := 37) hx3 (by decide +kernel) (by exact ev_ab_628) ?_
        intro x56 hx56
        refine ev_r_if (pc := 38) (q := .ge) (o := 49) (t := 87) (c := 0 ≤ x56) (by decide +kernel) (ev_k_ge hx56 ev_rng0) (by decide +kernel) ?_ ?_
        · intro c57
          exact hK87  s8 _ (by exact e5) (by exact e6)
        · intro c57
          refine ev_r_aload_n (pc := 41) (k := 0) (v := .ref 621) trivial (by decide +kernel) (by exact e5) ?_
          refine ev_r_getC (pc := 42) (y := 28) (ci := 13) (f := 9) (fin := 1) (k' := 628) (by decide +kernel) (by decide +kernel) (by exact ev_ob_621) rfl rfl ?_
          refine ev_r_iload_n (pc := 45) (k := 1) (v := Int32.ofInt x3) (by decide +kernel) (by exact e6) ?_
          refine ev_r_aload_n (pc := 46) (k := 0) (v := .ref 621) trivial (by decide +kernel) (by exact e5) ?_
          refine ev_r_getC (pc := 47) (y := 59) (ci := 13) (f := 19) (fin := 1) (k' := 638) (by decide +kernel) (by decide +kernel) (by exact ev_ob_621) rfl rfl ?_
          refine ev_r_sipush (pc := 50) (k := 311) (by decide +kernel) (by decide +kernel) ?_
          refine ev_r_aload_n (pc := 53) (k := 0) (v := .ref 621) trivial (by decide +kernel) (by exact e5) ?_
          refine ev_r_getC (pc := 54) (y := 28) (ci := 13) (f := 9) (fin := 1) (k' := 628) (by decide +kernel) (by decide +kernel) (by exact ev_ob_621) rfl rfl ?_
          refine ev_r_iload_n (pc := 57) (k := 1) (v := Int32.ofInt x3) (by decide +kernel) (by exact e6) ?_
          refine ev_r_iald (pc := 58) hx3 (by decide +kernel) (by exact ev_ab_628) ?_
          intro x58 hx58
          refine ev_r_isub (pc := 59) (by decide +kernel) ?_
          intro x59 hx59
          refine ev_r_iald (pc := 60) hx59 (by decide +kernel) (by exact ev_ab_638) ?_
          intro x60 hx60
          refine ev_r_iast (pc := 61) hx60 hx3 (by decide +kernel) (by exact ev_ab_628) ?_
          intro s61
          refine ev_r_aload_n (pc := 62) (k := 0) (v := .ref 621) trivial (by decide +kernel) (by exact e5) ?_
          refine ev_r_aload_n (pc := 63) (k := 0) (v := .ref 621) trivial (by decide +kernel) (by exact e5) ?_
          refine ev_r_getI (pc := 64) (y := 352) (ci := 13) (f := 25) (fin := 0) (by decide +kernel) (by decide +kernel) (by exact ev_ob_621) rfl ?_
          intro x62 hx62
          refine ev_r_jn (Q := fun K => ∀ (x63 : Int) (hx63 : ev_rng x63), ∀ (s67 : ev_St) (w64 : List (Nat × Value)), ev_lk w64 0 = some (.ref 621) → ev_lk w64 1 = some (.int (Int32.ofInt x3)) → ev_w none (ev_Mof 264) d 84 w64 [.int (Int32.ofInt x63), .ref 621] s67 (K x63 s67) ev_eU ev_PU) ?_ ?_
          · intro x63 hx63 s67 w64 e65 e66
            refine ev_r_chk ?_
            intro c69
            refine ev_r_putI (pc := 84) (y := 352) (ci := 13) (f := 25) hx63 (by decide +kernel) (by decide +kernel) (by exact ev_ob_621) rfl (ev_fit_bl c69) ?_
            intro s68
            exact hK87  s68 _ (by exact e65) (by exact e66)
          · intro K84 hK84
            refine ev_r_jn (Q := fun K => ∀ (s73 : ev_St) (w70 : List (Nat × Value)), ev_lk w70 0 = some (.ref 621) → ev_lk w70 1 = some (.int (Int32.ofInt x3)) → ev_w none (ev_Mof 264) d 79 w70 [.ref 621] s73 (K  s73) ev_eU ev_PU) ?_ ?_
            · intro  s73 w70 e71 e72
              refine ev_r_iconst (pc := 79) (k := 1) (by decide +kernel) ?_
              refine ev_r_goto (pc := 80) (o := 4) (t := 84) (by decide +kernel) (by decide +kernel) ?_
              exact hK84 1 (by decide) s73 _ (by exact e71) (by exact e72)
            · intro K79 hK79
              refine ev_r_if (pc := 67) (q := .ne) (o := 12) (t := 79) (c := x62 ≠ 0) (by decide +kernel) (ev_k_ne hx62 ev_rng0) (by decide +kernel) ?_ ?_
              · intro c74
                exact hK79  s61 _ (by exact e5) (by exact e6)
              · intro c74
                refine ev_r_aload_n (pc := 70) (k := 0) (v := .ref 621) trivial (by decide +kernel) (by exact e5) ?_
                refine ev_r_getC (pc := 71) (y := 28) (ci := 13) (f := 9) (fin := 1) (k' := 628) (by decide +kernel) (by decide +kernel) (by exact ev_ob_621) rfl rfl ?_
                refine ev_r_iload_n (pc := 74) (k := 1) (v := Int32.ofInt x3) (by decide +kernel) (by exact e6) ?_
                refine ev_r_iald (pc := 75) hx3 (by decide +kernel) (by exact ev_ab_628) ?_
                intro x75 hx75
                refine ev_r_if (pc := 76) (q := .ne) (o := 7) (t := 83) (c := x75 ≠ 0) (by decide +kernel) (ev_k_ne hx75 ev_rng0) (by decide +kernel) ?_ ?_
                · intro c76
                  refine ev_r_iconst (pc := 83) (k := 0) (by decide +kernel) ?_
                  exact hK84 0 (by decide) s61 _ (by exact e5) (by exact e6)
                · intro c76
                  exact hK79  s61 _ (by exact e5) (by exact e6)
theorem jlt_264_5 (d : Nat) (hd : 2 ≤ d + 1) (Q : Nat)     : ∀ q : Nat, ∀ (x3 : Int) (hx3 : ev_rng x3), ∀ (s7 : ev_St) (w4 : List (Nat × Value)), ev_lk w4 0 = some (.ref 621) → ev_lk w4 1 = some (.int (Int32.ofInt x3)) → ev_w none (ev_Mof 264) d 5 w4 [] s7 (jl_264_5 Q   q x3 s7) ev_eU ev_PU := by
  intro q
  induction q with
  | zero =>
    intro x3 hx3 s7 w4 e5 e6
    exact ev_w_none
  | succ q ih => exact jbt_264_5 d hd Q     _ ih
/-- MendBenchModel.checks()V -/
def jm_264 (Q : Nat)  (S : ev_St) : Option ((Unit) × ev_St) := ev_bd (jm_232 Q  S) fun x2 s1 => jl_264_5 Q   Q x2 s1
theorem jt_264 (d : Nat) (hd : 2 ≤ d) (Q : Nat)   (S : ev_St) (x : Unit) (S' : ev_St) (hJ : jm_264 Q  S = some (x, S')) : ev_Ref d 264 [.ref 621] S (ev_eU x) S' (ev_PU x) := by
  obtain ⟨d, rfl⟩ : ∃ e, d = e + 1 := ⟨d - 1, by omega⟩
  refine ev_ref_of (P := ev_PU) (lv := [(0, .ref 621)]) (by decide +kernel) (by (try simp only [ev_sum, ev_nv_cat]); first | done | rfl) (by (try simp only [lv_args, ev_nv_cat]); first | done | rfl) ?_ x S' hJ
  unfold jm_264
  refine ev_r_aload_n (pc := 0) (k := 0) (v := .ref 621) trivial (by decide +kernel) (by rfl) ?_
  refine ev_r_virt (pc := 1) (y := 356) (mi := 232) (na := 0) (k := 621) (as := []) (rest := []) (encc := ev_oI) (Q := ev_rng) (fun x S1 h => jt_232 d (by omega) Q   S x S1 h) (by exact ev_ob_621) (by decide +kernel) (by decide +kernel) (by decide +kernel) (by decide +kernel) rfl (by (try simp only [ev_sum, ev_nv_cat]); first | done | rfl) ?_
  intro x2 s1 hx2
  show ev_w _ _ _ _ _ [.int (Int32.ofInt x2)] _ _ _ _
  refine ev_r_istore_n (pc := 4) (k := 1) (by decide +kernel) (by decide +kernel) rfl ?_
  exact jlt_264_5 d hd Q     Q x2 hx2 s1 _ (by exact (ev_lk_st1 (by rfl) (by decide) rfl)) (by exact ev_lk_st1_self)
def jb_265_114 (Q : Nat)   (K114 : ev_St → Option ((Int) × ev_St))  (s24 : ev_St) : Option ((Int) × ev_St) := ev_b (s24.1 621 25) fun x25 => ev_jn (fun  (s28 : ev_St) => ev_b (s28.1 621 25) fun x29 => ev_jn (fun (x30 : Int) (s33 : ev_St) => ev_if (ev_bl x30) (ev_b (ev_pI s33 621 25 x30) fun s34 => ev_b (s34.1 621 25) fun x36 => ev_jn (fun  (s39 : ev_St) => ev_b (s39.1 621 25) fun x40 => if x40 = 0 then (ev_b (s39.1 621 27) fun x42 => some (x42, s39)) else (some ((-1), s39))) fun K235 => if x36 ≠ 0 then (K235  s34) else (ev_bd (jm_264 Q  s34) fun _ s44 => K235  s44))) fun K221 => ev_jn (fun  (s47 : ev_St) => K221 1 s47) fun K216 => if x29 ≠ 0 then (K216  s28) else (ev_b (s28.1 621 31) fun x49 => if x49 = 1 then (K221 0 s28) else (K216  s28))) fun K200 => if x25 ≠ 0 then (K200  s24) else (ev_b (s24.1 621 28) fun x52 => ev_jn (fun  (s55 : ev_St) => ev_bd (jm_233 Q 0 s55) fun x57 s56 => if x57 = (-1) then (ev_b (s56.1 621 31) fun x59 => ev_ck (x59 - 1) fun x60 => ev_if ((0 : Int) ≤ x60 ∧ x60 < (ev_aln 650 : Int)) (ev_b (s56.1 650 (Int.toNat x60)) fun x61 => ev_jn (fun (x62 : Int) (s65 : ev_St) => ev_if (ev_bl x62) (ev_b (ev_pI s65 621 25 x62) fun s66 => ev_b (s66.1 621 28) fun x68 => ev_ck (x68 - 1) fun x69 => ev_b (ev_pI s66 621 28 x69) fun s70 => ev_b (s70.1 621 25) fun x71 => if x71 ≠ 0 then (K114  s70) else (ev_bd (jm_240 Q  s70) fun _ s73 => K114  s73))) fun K173 => if x61 ≠ 0 then (K173 0 s56) else (K173 1 s56))) else (ev_bd (jm_263 Q  s56) fun _ s75 => K114  s75)) fun K137 => if 0 < x52 then (K137  s24) else (ev_bd (jm_233 Q 0 s24) fun x78 s77 => if x78 = (-1) then (K200  s77) else (K137  s77)))
def jl_265_114 (Q : Nat)   : Nat → ev_St → Option ((Int) × ev_St)
  | 0 => fun  _ => none
  | q + 1 => jb_265_114 Q   (jl_265_114 Q   q)
theorem jbt_265_114 (d : Nat) (hd : 8 ≤ d + 1) (Q : Nat)     (K114 : ev_St → Option ((Int) × ev_St)) (hK114 : ∀ (s24 : ev_St) (w22 : List (Nat × Value)), ev_lk w22 0 = some (.ref 621) → ev_w none (ev_Mof 265) d 114 w22 [] s24 (K114  s24) ev_eI ev_rng) : ∀ (s24 : ev_St) (w22 : List (Nat × Value)), ev_lk w22 0 = some (.ref 621) → ev_w none (ev_Mof 265) d 114 w22 [] s24 (jb_265_114 Q   K114  s24) ev_eI ev_rng := by
  intro  s24 w22 e23
  unfold jb_265_114
  refine ev_r_aload_n (pc := 114) (k := 0) (v := .ref 621) trivial (by decide +kernel) (by exact e23) ?_
  refine ev_r_getI (pc := 115) (y := 352) (ci := 13) (f := 25) (fin := 0) (by decide +kernel) (by decide +kernel) (by exact ev_ob_621) rfl ?_
  intro x25 hx25
  refine ev_r_jn (Q := fun K => ∀ (s28 : ev_St) (w26 : List (Nat × Value)), ev_lk w26 0 = some (.ref 621) → ev_w none (ev_Mof 265) d 200 w26 [] s28 (K  s28) ev_eI ev_rng) ?_ ?_
  · intro  s28 w26 e27
    refine ev_r_aload_n (pc := 200) (k := 0) (v := .ref 621) trivial (by decide +kernel) (by exact e27) ?_
    refine ev_r_aload_n (pc := 201) (k := 0) (v := .ref 621) trivial (by decide +kernel) (by exact e27) ?_
    refine ev_r_getI (pc := 202) (y := 352) (ci := 13) (f := 25) (fin := 0) (by decide +kernel) (by decide +kernel) (by exact ev_ob_621) rfl ?_
    intro x29 hx29
    refine ev_r_jn (Q := fun K => ∀ (x30 : Int) (hx30 : ev_rng x30), ∀ (s33 : ev_St) (w31 : List (Nat × Value)), ev_lk w31 0 = some (.ref 621) → ev_w none (ev_Mof 265) d 221 w31 [.int (Int32.ofInt x30), .ref 621] s33 (K x30 s33) ev_eI ev_rng) ?_ ?_
    · intro x30 hx30 s33 w31 e32
      refine ev_r_chk ?_
      intro c35
      refine ev_r_putI (pc := 221) (y := 352) (ci := 13) (f := 25) hx30 (by decide +kernel) (by decide +kernel) (by exact ev_ob_621) rfl (ev_fit_bl c35) ?_
      intro s34
      refine ev_r_aload_n (pc := 224) (k := 0) (v := .ref 621) trivial (by decide +kernel) (by exact e32) ?_
      refine ev_r_getI (pc := 225) (y := 352) (ci := 13) (f := 25) (fin := 0) (by decide +kernel) (by decide +kernel) (by exact ev_ob_621) rfl ?_
      intro x36 hx36
      refine ev_r_jn (Q := fun K => ∀ (s39 : ev_St) (w37 : List (Nat × Value)), ev_lk w37 0 = some (.ref 621) → ev_w none (ev_Mof 265) d 235 w37 [] s39 (K  s39) ev_eI ev_rng) ?_ ?_
      · intro  s39 w37 e38
        refine ev_r_aload_n (pc := 235) (k := 0) (v := .ref 621) trivial (by decide +kernel) (by exact e38) ?_
        refine ev_r_getI (pc := 236) (y := 352) (ci := 13) (f := 25) (fin := 0) (by decide +kernel) (by decide +kernel) (by exact ev_ob_621) rfl ?_
        intro x40 hx40
        refine ev_r_if (pc := 239) (q := .eq) (o := 7) (t := 246) (c := x40 = 0) (by decide +kernel) (ev_k_eq hx40 ev_rng0) (by decide +kernel) ?_ ?_
        · intro c41
          refine ev_r_aload_n (pc := 246) (k := 0) (v := .ref 621) trivial (by decide +kernel) (by exact e38) ?_
          refine ev_r_getI (pc := 247) (y := 360) (ci := 13) (f := 27) (fin := 0) (by decide +kernel) (by decide +kernel) (by exact ev_ob_621) rfl ?_
          intro x42 hx42
          exact ev_r_ireturn (pc := 250) (x := x42) (v := Int32.ofInt x42) (ty := .int) hx42 (by decide +kernel) (by decide +kernel) rfl rfl
        · intro c41
          refine ev_r_iconst (pc := 242) (k := -1) (by decide +kernel) ?_
          refine ev_r_goto (pc := 243) (o := 7) (t := 250) (by decide +kernel) (by decide +kernel) ?_
          exact ev_r_ireturn (pc := 250) (x := (-1)) (v := Int32.ofInt ((-1))) (ty := .int) (by decide) (by decide +kernel) (by decide +kernel) rfl rfl
      · intro K235 hK235
        refine ev_r_if (pc := 228) (q := .ne) (o := 7) (t := 235) (c := x36 ≠ 0) (by decide +kernel) (ev_k_ne hx36 ev_rng0) (by decide +kernel) ?_ ?_
        · intro c43
          exact hK235  s34 _ (by exact e32)
        · intro c43
          refine ev_r_aload_n (pc := 231) (k := 0) (v := .ref 621) trivial (by decide +kernel) (by exact e32) ?_
          refine ev_r_virt (pc := 232) (y := 498) (mi := 264) (na := 0) (k := 621) (as := []) (rest := []) (encc := ev_oU) (Q := ev_PU) (fun x S1 h => jt_264 d (by omega) Q   s34 x S1 h) (by exact ev_ob_621) (by decide +kernel) (by decide +kernel) (by decide +kernel) (by decide +kernel) rfl (by (try simp only [ev_sum, ev_nv_cat]); first | done | rfl) ?_
          intro _ s44 _
          show ev_w _ _ _ _ _ [] _ _ _ _
          exact hK235  s44 _ (by exact e32)
    · intro K221 hK221
      refine ev_r_jn (Q := fun K => ∀ (s47 : ev_St) (w45 : List (Nat × Value)), ev_lk w45 0 = some (.ref 621) → ev_w none (ev_Mof 265) d 216 w45 [.ref 621] s47 (K  s47) ev_eI ev_rng) ?_ ?_
      · intro  s47 w45 e46
        refine ev_r_iconst (pc := 216) (k := 1) (by decide +kernel) ?_
        refine ev_r_goto (pc := 217) (o := 4) (t := 221) (by decide +kernel) (by decide +kernel) ?_
        exact hK221 1 (by decide) s47 _ (by exact e46)
      · intro K216 hK216
        refine ev_r_if (pc := 205) (q := .ne) (o := 11) (t := 216) (c := x29 ≠ 0) (by decide +kernel) (ev_k_ne hx29 ev_rng0) (by decide +kernel) ?_ ?_
        · intro c48
          exact hK216  s28 _ (by exact e27)
        · intro c48
          refine ev_r_aload_n (pc := 208) (k := 0) (v := .ref 621) trivial (by decide +kernel) (by exact e27) ?_
          refine ev_r_getI (pc := 209) (y := 381) (ci := 13) (f := 31) (fin := 0) (by decide +kernel) (by decide +kernel) (by exact ev_ob_621) rfl ?_
          intro x49 hx49
          refine ev_r_iconst (pc := 212) (k := 1) (by decide +kernel) ?_
          refine ev_r_icmp (pc := 213) (q := .eq) (o := 7) (t := 220) (c := x49 = 1) (by decide +kernel) (ev_k_eq hx49 (by decide)) (by decide +kernel) ?_ ?_
          · intro c50
            refine ev_r_iconst (pc := 220) (k := 0) (by decide +kernel) ?_
            exact hK221 0 (by decide) s28 _ (by exact e27)
          · intro c50
            exact hK216  s28 _ (by exact e27)
  · intro K200 hK200
    refine ev_r_if (pc := 118) (q := .ne) (o := 82) (t := 200) (c := x25 ≠ 0) (by decide +kernel) (ev_k_ne hx25 ev_rng0) (by decide +kernel) ?_ ?_
    · intro c51
      exact hK200  s24 _ (by exact e23)
    · intro c51
      refine ev_r_aload_n (pc := 121) (k := 0) (v := .ref 621) trivial (by decide +kernel) (by exact e23) ?_
      refine ev_r_getI (pc := 122) (y := 349) (ci := 13) (f := 28) (fin := 0) (by decide +kernel) (by decide +kernel) (by exact ev_ob_621) rfl ?_
      intro x52 hx52
      refine ev_r_jn (Q := fun K => ∀ (s55 : ev_St) (w53 : List (Nat × Value)), ev_lk w53 0 = some (.ref 621) → ev_w none (ev_Mof 265) d 137 w53 [] s55 (K  s55) ev_eI ev_rng) ?_ ?_
      · intro  s55 w53 e54
        refine ev_r_aload_n (pc := 137) (k := 0) (v := .ref 621) trivial (by decide +kernel) (by exact e54) ?_
        refine ev_r_iconst (pc := 138) (k := 0) (by decide +kernel) ?_
        refine ev_r_virt (pc := 139) (y := 409) (mi := 233) (na := 1) (k := 621) (as := [.int (Int32.ofInt 0)]) (rest := []) (encc := ev_oI) (Q := ev_rng) (fun x S1 h => jt_233 d (by omega) Q 0 (by decide) s55 x S1 h) (by exact ev_ob_621) (by decide +kernel) (by decide +kernel) (by decide +kernel) (by decide +kernel) rfl (by (try simp only [ev_sum, ev_nv_cat]); first | done | rfl) ?_
        intro x57 s56 hx57
        show ev_w _ _ _ _ _ [.int (Int32.ofInt x57)] _ _ _ _
        refine ev_r_iconst (pc := 142) (k := -1) (by decide +kernel) ?_
        refine ev_r_icmp (pc := 143) (q := .eq) (o := 10) (t := 153) (c := x57 = (-1)) (by decide +kernel) (ev_k_eq hx57 (by decide)) (by decide +kernel) ?_ ?_
        · intro c58
          refine ev_r_aload_n (pc := 153) (k := 0) (v := .ref 621) trivial (by decide +kernel) (by exact e54) ?_
          refine ev_r_aload_n (pc := 154) (k := 0) (v := .ref 621) trivial (by decide +kernel) (by exact e54) ?_
          refine ev_r_getC (pc := 155) (y := 95) (ci := 13) (f := 36) (fin := 1) (k' := 650) (by decide +kernel) (by decide +kernel) (by exact ev_ob_621) rfl rfl ?_
          refine ev_r_aload_n (pc := 158) (k := 0) (v := .ref 621) trivial (by decide +kernel) (by exact e54) ?_
          refine ev_r_getI (pc := 159) (y := 381) (ci := 13) (f := 31) (fin := 0) (by decide +kernel) (by decide +kernel) (by exact ev_ob_621) rfl ?_
          intro x59 hx59
          refine ev_r_iconst (pc := 162) (k := 1) (by decide +kernel) ?_
          refine ev_r_isub (pc := 163) (by decide +kernel) ?_
          intro x60 hx60
          refine ev_r_bald (pc := 164) (ty := .boolean) (Or.inr rfl) hx60 (by decide +kernel) (by exact ev_ab_650) ?_
          intro x61 hx61
          refine ev_r_jn (Q := fun K => ∀ (x62 : Int) (hx62 : ev_rng x62), ∀ (s65 : ev_St) (w63 : List (Nat × Value)), ev_lk w63 0 = some (.ref 621) → ev_w none (ev_Mof 265) d 173 w63 [.int (Int32.ofInt x62), .ref 621] s65 (K x62 s65) ev_eI ev_rng) ?_ ?_
          · intro x62 hx62 s65 w63 e64
            refine ev_r_chk ?_
            intro c67
            refine ev_r_putI (pc := 173) (y := 352) (ci := 13) (f := 25) hx62 (by decide +kernel) (by decide +kernel) (by exact ev_ob_621) rfl (ev_fit_bl c67) ?_
            intro s66
            refine ev_r_aload_n (pc := 176) (k := 0) (v := .ref 621) trivial (by decide +kernel) (by exact e64) ?_
            refine ev_r_dup (pc := 177) rfl (by decide +kernel) ?_
            refine ev_r_getI (pc := 178) (y := 349) (ci := 13) (f := 28) (fin := 0) (by decide +kernel) (by decide +kernel) (by exact ev_ob_621) rfl ?_
            intro x68 hx68
            refine ev_r_iconst (pc := 181) (k := 1) (by decide +kernel) ?_
            refine ev_r_isub (pc := 182) (by decide +kernel) ?_
            intro x69 hx69
            refine ev_r_putI (pc := 183) (y := 349) (ci := 13) (f := 28) hx69 (by decide +kernel) (by decide +kernel) (by exact ev_ob_621) rfl rfl ?_
            intro s70
            refine ev_r_aload_n (pc := 186) (k := 0) (v := .ref 621) trivial (by decide +kernel) (by exact e64) ?_
            refine ev_r_getI (pc := 187) (y := 352) (ci := 13) (f := 25) (fin := 0) (by decide +kernel) (by decide +kernel) (by exact ev_ob_621) rfl ?_
            intro x71 hx71
            refine ev_r_if (pc := 190) (q := .ne) (o := (-76)) (t := 114) (c := x71 ≠ 0) (by decide +kernel) (ev_k_ne hx71 ev_rng0) (by decide +kernel) ?_ ?_
            · intro c72
              exact hK114  s70 _ (by exact e64)
            · intro c72
              refine ev_r_aload_n (pc := 193) (k := 0) (v := .ref 621) trivial (by decide +kernel) (by exact e64) ?_
              refine ev_r_virt (pc := 194) (y := 487) (mi := 240) (na := 0) (k := 621) (as := []) (rest := []) (encc := ev_oU) (Q := ev_PU) (fun x S1 h => jt_240 d (by omega) Q   s70 x S1 h) (by exact ev_ob_621) (by decide +kernel) (by decide +kernel) (by decide +kernel) (by decide +kernel) rfl (by (try simp only [ev_sum, ev_nv_cat]); first | done | rfl) ?_
              intro _ s73 _
              show ev_w _ _ _ _ _ [] _ _ _ _
              refine ev_r_goto (pc := 197) (o := (-83)) (t := 114) (by decide +kernel) (by decide +kernel) ?_
              exact hK114  s73 _ (by exact e64)
          · intro K173 hK173
            refine ev_r_if (pc := 165) (q := .ne) (o := 7) (t := 172) (c := x61 ≠ 0) (by decide +kernel) (ev_k_ne hx61 ev_rng0) (by decide +kernel) ?_ ?_
            · intro c74
              refine ev_r_iconst (pc := 172) (k := 0) (by decide +kernel) ?_
              exact hK173 0 (by decide) s56 _ (by exact e54)
            · intro c74
              refine ev_r_iconst (pc := 168) (k := 1) (by decide +kernel) ?_
              refine ev_r_goto (pc := 169) (o := 4) (t := 173) (by decide +kernel) (by decide +kernel) ?_
              exact hK173 1 (by decide) s56 _ (by exact e54)
        · intro c58
          refine ev_r_aload_n (pc := 146) (k := 0) (v := .ref 621) trivial (by decide +kernel) (by exact e54) ?_
          refine ev_r_virt (pc := 147) (y := 495) (mi := 263) (na := 0) (k := 621) (as := []) (rest := []) (encc := ev_oU) (Q := ev_PU) (fun x S1 h => jt_263 d (by omega) Q   s56 x S1 h) (by exact ev_ob_621) (by decide +kernel) (by decide +kernel) (by decide +kernel) (by decide +kernel) rfl (by (try simp only [ev_sum, ev_nv_cat]); first | done | rfl) ?_
          intro _ s75 _
          show ev_w _ _ _ _ _ [] _ _ _ _
          refine ev_r_goto (pc := 150) (o := (-36)) (t := 114) (by decide +kernel) (by decide +kernel) ?_
          exact hK114  s75 _ (by exact e54)
      · intro K137 hK137
        refine ev_r_if (pc := 125) (q := .gt) (o := 12) (t := 137) (c := 0 < x52) (by decide +kernel) (ev_k_gt hx52 ev_rng0) (by decide +kernel) ?_ ?_
        · intro c76
          exact hK137  s24 _ (by exact e23)
        · intro c76
          refine ev_r_aload_n (pc := 128) (k := 0) (v := .ref 621) trivial (by decide +kernel) (by exact e23) ?_
          refine ev_r_iconst (pc := 129) (k := 0) (by decide +kernel) ?_
          refine ev_r_virt (pc := 130) (y := 409) (mi := 233) (na := 1) (k := 621) (as := [.int (Int32.ofInt 0)]) (rest := []) (encc := ev_oI) (Q := ev_rng) (fun x S1 h => jt_233 d (by omega) Q 0 (by decide) s24 x S1 h) (by exact ev_ob_621) (by decide +kernel) (by decide +kernel) (by decide +kernel) (by decide +kernel) rfl (by (try simp only [ev_sum, ev_nv_cat]); first | done | rfl) ?_
          intro x78 s77 hx78
          show ev_w _ _ _ _ _ [.int (Int32.ofInt x78)] _ _ _ _
          refine ev_r_iconst (pc := 133) (k := -1) (by decide +kernel) ?_
          refine ev_r_icmp (pc := 134) (q := .eq) (o := 66) (t := 200) (c := x78 = (-1)) (by decide +kernel) (ev_k_eq hx78 (by decide)) (by decide +kernel) ?_ ?_
          · intro c79
            exact hK200  s77 _ (by exact e23)
          · intro c79
            exact hK137  s77 _ (by exact e23)
theorem jlt_265_114 (d : Nat) (hd : 8 ≤ d + 1) (Q : Nat)     : ∀ q : Nat, ∀ (s24 : ev_St) (w22 : List (Nat × Value)), ev_lk w22 0 = some (.ref 621) → ev_w none (ev_Mof 265) d 114 w22 [] s24 (jl_265_114 Q   q  s24) ev_eI ev_rng := by
  intro q
  induction q with
  | zero =>
    intro  s24 w22 e23
    exact ev_w_none
  | succ q ih => exact jbt_265_114 d hd Q     _ ih
def jb_265_33 (Q : Nat)   (K33 : Int → ev_St → Option ((Int) × ev_St)) (x6 : Int) (s10 : ev_St) : Option ((Int) × ev_St) := if 26 ≤ x6 then (ev_b (ev_pI s10 621 28 0) fun s12 => ev_if ((0 : Int) ≤ 0 ∧ 0 < (ev_aln 644 : Int)) (ev_b (ev_pI s12 644 (Int.toNat 0) ((-1))) fun s13 => ev_if ((0 : Int) ≤ 0 ∧ 0 < (ev_aln 645 : Int)) (ev_b (ev_pI s13 645 (Int.toNat 0) 0) fun s14 => ev_b (ev_pI s14 621 31 0) fun s15 => ev_b (ev_pI s15 621 40 0) fun s16 => ev_b (ev_pI s16 621 37 ((-1))) fun s17 => ev_b (ev_pI s17 621 38 ((-1))) fun s18 => ev_bd (jm_235 Q 9 s18) fun x20 s19 => ev_if ((0 : Int) ≤ 120 ∧ 120 < (ev_aln 637 : Int)) (ev_b (ev_pI s19 637 (Int.toNat 120) x20) fun s21 => ev_bd (jm_239 Q 0 0 s21) fun _ s80 => jl_265_114 Q   Q  s80)))) else (ev_ck (312 + x6) fun x81 => ev_if ((0 : Int) ≤ x81 ∧ x81 < (ev_aln 638 : Int)) (ev_b (ev_pI s10 638 (Int.toNat x81) 0) fun s82 => ev_ck (x6 + 1) fun x83 => K33 x83 s82))
def jl_265_33 (Q : Nat)   : Nat → Int → ev_St → Option ((Int) × ev_St)
  | 0 => fun _ _ => none
  | q + 1 => jb_265_33 Q   (jl_265_33 Q   q)
theorem jbt_265_33 (d : Nat) (hd : 8 ≤ d + 1) (Q : Nat)     (K33 : Int → ev_St → Option ((Int) × ev_St)) (hK33 : ∀ (x6 : Int) (hx6 : ev_rng x6), ∀ (s10 : ev_St) (w7 : List (Nat × Value)), ev_lk w7 0 = some (.ref 621) → ev_lk w7 2 = some (.int (Int32.ofInt x6)) → ev_w none (ev_Mof 265) d 33 w7 [] s10 (K33 x6 s10) ev_eI ev_rng) : ∀ (x6 : Int) (hx6 : ev_rng x6), ∀ (s10 : ev_St) (w7 : List (Nat × Value)), ev_lk w7 0 = some (.ref 621) → ev_lk w7 2 = some (.int (Int32.ofInt x6)) → ev_w none (ev_Mof 265) d 33 w7 [] s10 (jb_265_33 Q   K33 x6 s10) ev_eI ev_rng := by
  intro x6 hx6 s10 w7 e8 e9
  unfold jb_265_33
  refine ev_r_iload_n (pc := 33) (k := 2) (v := Int32.ofInt x6) (by decide +kernel) (by exact e9) ?_
  refine ev_r_bipush (pc := 34) (k := 26) (by decide +kernel) (by decide +kernel) ?_
  refine ev_r_icmp (pc := 36) (q := .ge) (o := 20) (t := 56) (c := 26 ≤ x6) (by decide +kernel) (ev_k_ge hx6 (by decide)) (by decide +kernel) ?_ ?_
  · intro c11
    refine ev_r_aload_n (pc := 56) (k := 0) (v := .ref 621) trivial (by decide +kernel) (by exact e8) ?_
    refine ev_r_iconst (pc := 57) (k := 0) (by decide +kernel) ?_
    refine ev_r_putI (pc := 58) (y := 349) (ci := 13) (f := 28) (by decide) (by decide +kernel) (by decide +kernel) (by exact ev_ob_621) rfl rfl ?_
    intro s12
    refine ev_r_aload_n (pc := 61) (k := 0) (v := .ref 621) trivial (by decide +kernel) (by exact e8) ?_
    refine ev_r_getC (pc := 62) (y := 77) (ci := 13) (f := 29) (fin := 1) (k' := 644) (by decide +kernel) (by decide +kernel) (by exact ev_ob_621) rfl rfl ?_
    refine ev_r_iconst (pc := 65) (k := 0) (by decide +kernel) ?_
    refine ev_r_iconst (pc := 66) (k := -1) (by decide +kernel) ?_
    refine ev_r_iast (pc := 67) (by decide) (by decide) (by decide +kernel) (by exact ev_ab_644) ?_
    intro s13
    refine ev_r_aload_n (pc := 68) (k := 0) (v := .ref 621) trivial (by decide +kernel) (by exact e8) ?_
    refine ev_r_getC (pc := 69) (y := 80) (ci := 13) (f := 30) (fin := 1) (k' := 645) (by decide +kernel) (by decide +kernel) (by exact ev_ob_621) rfl rfl ?_
    refine ev_r_iconst (pc := 72) (k := 0) (by decide +kernel) ?_
    refine ev_r_iconst (pc := 73) (k := 0) (by decide +kernel) ?_
    refine ev_r_iast (pc := 74) (by decide) (by decide) (by decide +kernel) (by exact ev_ab_645) ?_
    intro s14
    refine ev_r_aload_n (pc := 75) (k := 0) (v := .ref 621) trivial (by decide +kernel) (by exact e8) ?_
    refine ev_r_iconst (pc := 76) (k := 0) (by decide +kernel) ?_
    refine ev_r_putI (pc := 77) (y := 381) (ci := 13) (f := 31) (by decide) (by decide +kernel) (by decide +kernel) (by exact ev_ob_621) rfl rfl ?_
    intro s15
    refine ev_r_aload_n (pc := 80) (k := 0) (v := .ref 621) trivial (by decide +kernel) (by exact e8) ?_
    refine ev_r_iconst (pc := 81) (k := 0) (by decide +kernel) ?_
    refine ev_r_putI (pc := 82) (y := 384) (ci := 13) (f := 40) (by decide) (by decide +kernel) (by decide +kernel) (by exact ev_ob_621) rfl rfl ?_
    intro s16
    refine ev_r_aload_n (pc := 85) (k := 0) (v := .ref 621) trivial (by decide +kernel) (by exact e8) ?_
    refine ev_r_iconst (pc := 86) (k := -1) (by decide +kernel) ?_
    refine ev_r_putI (pc := 87) (y := 372) (ci := 13) (f := 37) (by decide) (by decide +kernel) (by decide +kernel) (by exact ev_ob_621) rfl rfl ?_
    intro s17
    refine ev_r_aload_n (pc := 90) (k := 0) (v := .ref 621) trivial (by decide +kernel) (by exact e8) ?_
    refine ev_r_iconst (pc := 91) (k := -1) (by decide +kernel) ?_
    refine ev_r_putI (pc := 92) (y := 369) (ci := 13) (f := 38) (by decide) (by decide +kernel) (by decide +kernel) (by exact ev_ob_621) rfl rfl ?_
    intro s18
    refine ev_r_aload_n (pc := 95) (k := 0) (v := .ref 621) trivial (by decide +kernel) (by exact e8) ?_
    refine ev_r_getC (pc := 96) (y := 56) (ci := 13) (f := 18) (fin := 1) (k' := 637) (by decide +kernel) (by decide +kernel) (by exact ev_ob_621) rfl rfl ?_
    refine ev_r_bipush (pc := 99) (k := 120) (by decide +kernel) (by decide +kernel) ?_
    refine ev_r_aload_n (pc := 101) (k := 0) (v := .ref 621) trivial (by decide +kernel) (by exact e8) ?_
    refine ev_r_bipush (pc := 102) (k := 9) (by decide +kernel) (by decide +kernel) ?_
    refine ev_r_virt (pc := 104) (y := 363) (mi := 235) (na := 1) (k := 621) (as := [.int (Int32.ofInt 9)]) (rest := [.int (Int32.ofInt 120), .ref 637]) (encc := ev_oI) (Q := ev_rng) (fun x S1 h => jt_235 d (by omega) Q 9 (by decide) s18 x S1 h) (by exact ev_ob_621) (by decide +kernel) (by decide +kernel) (by decide +kernel) (by decide +kernel) rfl (by (try simp only [ev_sum, ev_nv_cat]); first | done | rfl) ?_
    intro x20 s19 hx20
    show ev_w _ _ _ _ _ [.int (Int32.ofInt x20), .int (Int32.ofInt 120), .ref 637] _ _ _ _
    refine ev_r_iast (pc := 107) hx20 (by decide) (by decide +kernel) (by exact ev_ab_637) ?_
    intro s21
    refine ev_r_aload_n (pc := 108) (k := 0) (v := .ref 621) trivial (by decide +kernel) (by exact e8) ?_
    refine ev_r_iconst (pc := 109) (k := 0) (by decide +kernel) ?_
    refine ev_r_iconst (pc := 110) (k := 0) (by decide +kernel) ?_
    refine ev_r_virt (pc := 111) (y := 456) (mi := 239) (na := 2) (k := 621) (as := [.int (Int32.ofInt 0), .int (Int32.ofInt 0)]) (rest := []) (encc := ev_oU) (Q := ev_PU) (fun x S1 h => jt_239 d (by omega) Q 0 0 (by decide) (by decide) s21 x S1 h) (by exact ev_ob_621) (by decide +kernel) (by decide +kernel) (by decide +kernel) (by decide +kernel) rfl (by (try simp only [ev_sum, ev_nv_cat]); first | done | rfl) ?_
    intro _ s80 _
    show ev_w _ _ _ _ _ [] _ _ _ _
    exact jlt_265_114 d hd Q     Q  s80 _ (by exact e8)
  · intro c11
    refine ev_r_aload_n (pc := 39) (k := 0) (v := .ref 621) trivial (by decide +kernel) (by exact e8) ?_
    refine ev_r_getC (pc := 40) (y := 59) (ci := 13) (f := 19) (fin := 1) (k' := 638) (by decide +kernel) (by decide +kernel) (by exact ev_ob_621) rfl rfl ?_
    refine ev_r_sipush (pc := 43) (k := 312) (by decide +kernel) (by decide +kernel) ?_
    refine ev_r_iload_n (pc := 46) (k := 2) (v := Int32.ofInt x6) (by decide +kernel) (by exact e9) ?_
    refine ev_r_iadd (pc := 47) (by decide +kernel) ?_
    intro x81 hx81
    refine ev_r_iconst (pc := 48) (k := 0) (by decide +kernel) ?_
    refine ev_r_iast (pc := 49) (by decide) hx81 (by decide +kernel) (by exact ev_ab_638) ?_
    intro s82
    refine ev_r_iinc (pc := 50) (k := 2) (c := 1) (x := x6) (by decide +kernel) (by decide +kernel) (by exact e9) (fun _ => rfl) ?_
    intro x83 hx83
    refine ev_r_goto (pc := 53) (o := (-20)) (t := 33) (by decide +kernel) (by decide +kernel) ?_
    exact hK33 x83 hx83 s82 _ (by exact (ev_l1 e8 (by decide) (by decide))) (by exact ev_lk_st1_self)
theorem jlt_265_33 (d : Nat) (hd : 8 ≤ d + 1) (Q : Nat)     : ∀ q : Nat, ∀ (x6 : Int) (hx6 : ev_rng x6), ∀ (s10 : ev_St) (w7 : List (Nat × Value)), ev_lk w7 0 = some (.ref 621) → ev_lk w7 2 = some (.int (Int32.ofInt x6)) → ev_w none (ev_Mof 265) d 33 w7 [] s10 (jl_265_33 Q   q x6 s10) ev_eI ev_rng := by
  intro q
  induction q with
  | zero =>
    intro x6 hx6 s10 w7 e8 e9
    exact ev_w_none
  | succ q ih => exact jbt_265_33 d hd Q     _ ih
/-- MendBenchModel.readsAll(I)I -/
def jm_265 (Q : Nat) (a0 : Int) (S : ev_St) : Option ((Int) × ev_St) := ev_b (ev_pI S 621 26 a0) fun s1 => ev_b (ev_pI s1 621 25 0) fun s2 => ev_b (ev_pI s2 621 27 0) fun s3 => ev_if ((0 : Int) ≤ 12 ∧ 12 < (ev_aln 635 : Int)) (ev_b (ev_pI s3 635 (Int.toNat 12) 0) fun s4 => ev_if ((0 : Int) ≤ 12 ∧ 12 < (ev_aln 636 : Int)) (ev_b (ev_pI s4 636 (Int.toNat 12) 0) fun s5 => jl_265_33 Q   Q 0 s5))
theorem jt_265 (d : Nat) (hd : 8 ≤ d) (Q : Nat) (a0 : Int) (ha0 : ev_rng a0) (S : ev_St) (x : Int) (S' : ev_St) (hJ : jm_265 Q a0 S = some (x, S')) : ev_Ref d 265 [.ref 621, .int (Int32.ofInt a0)] S (ev_eI x) S' (ev_rng x) := by
  obtain ⟨d, rfl⟩ : ∃ e, d = e + 1 := ⟨d - 1, by omega⟩
  refine ev_ref_of (P := ev_rng) (lv := [(0, .ref 621), (1, .int (Int32.ofInt a0))]) (by decide +kernel) (by (try simp only [ev_sum, ev_nv_cat]); first | done | rfl) (by (try simp only [lv_args, ev_nv_cat]); first | done | rfl) ?_ x S' hJ
  unfold jm_265
  refine ev_r_aload_n (pc := 0) (k := 0) (v := .ref 621) trivial (by decide +kernel) (by rfl) ?_
  refine ev_r_iload_n (pc := 1) (k := 1) (v := Int32.ofInt a0) (by decide +kernel) (by rfl) ?_
  refine ev_r_putI (pc := 2) (y := 460) (ci := 13) (f := 26) ha0 (by decide +kernel) (by decide +kernel) (by exact ev_ob_621) rfl rfl ?_
  intro s1
  refine ev_r_aload_n (pc := 5) (k := 0) (v := .ref 621) trivial (by decide +kernel) (by rfl) ?_
  refine ev_r_iconst (pc := 6) (k := 0) (by decide +kernel) ?_
  refine ev_r_putI (pc := 7) (y := 352) (ci := 13) (f := 25) (by decide) (by decide +kernel) (by decide +kernel) (by exact ev_ob_621) rfl (ev_fit_bl (by decide : ev_bl 0)) ?_
  intro s2
  refine ev_r_aload_n (pc := 10) (k := 0) (v := .ref 621) trivial (by decide +kernel) (by rfl) ?_
  refine ev_r_iconst (pc := 11) (k := 0) (by decide +kernel) ?_
  refine ev_r_putI (pc := 12) (y := 360) (ci := 13) (f := 27) (by decide) (by decide +kernel) (by decide +kernel) (by exact ev_ob_621) rfl rfl ?_
  intro s3
  refine ev_r_aload_n (pc := 15) (k := 0) (v := .ref 621) trivial (by decide +kernel) (by rfl) ?_
  refine ev_r_getC (pc := 16) (y := 50) (ci := 13) (f := 16) (fin := 1) (k' := 635) (by decide +kernel) (by decide +kernel) (by exact ev_ob_621) rfl rfl ?_
  refine ev_r_bipush (pc := 19) (k := 12) (by decide +kernel) (by decide +kernel) ?_
  refine ev_r_iconst (pc := 21) (k := 0) (by decide +kernel) ?_
  refine ev_r_iast (pc := 22) (by decide) (by decide) (by decide +kernel) (by exact ev_ab_635) ?_
  intro s4
  refine ev_r_aload_n (pc := 23) (k := 0) (v := .ref 621) trivial (by decide +kernel) (by rfl) ?_
  refine ev_r_getC (pc := 24) (y := 53) (ci := 13) (f := 17) (fin := 1) (k' := 636) (by decide +kernel) (by decide +kernel) (by exact ev_ob_621) rfl rfl ?_
  refine ev_r_bipush (pc := 27) (k := 12) (by decide +kernel) (by decide +kernel) ?_
  refine ev_r_iconst (pc := 29) (k := 0) (by decide +kernel) ?_
  refine ev_r_iast (pc := 30) (by decide) (by decide) (by decide +kernel) (by exact ev_ab_636) ?_
  intro s5
  refine ev_r_iconst (pc := 31) (k := 0) (by decide +kernel) ?_
  refine ev_r_istore_n (pc := 32) (k := 2) (by decide +kernel) (by decide +kernel) rfl ?_
  exact jlt_265_33 d hd Q     Q 0 (by decide) s5 _ (by exact (ev_l1 (by rfl) (by decide) (by decide))) (by exact ev_lk_st1_self)
/-- MendBenchModel.capped(J)I -/
def jm_266 (Q : Nat) (a0 : Int64) (S : ev_St) : Option ((Int) × ev_St) := ev_b (ev_lcmp a0 ((1000000))) fun x1 => if x1 ≤ 0 then (ev_b (ev_l2i a0) fun x3 => some (x3, S)) else (some (1000000, S))
theorem jt_266 (d : Nat) (hd : 1 ≤ d) (Q : Nat) (a0 : Int64)  (S : ev_St) (x : Int) (S' : ev_St) (hJ : jm_266 Q a0 S = some (x, S')) : ev_Ref d 266 [.long a0] S (ev_eI x) S' (ev_rng x) := by
  obtain ⟨d, rfl⟩ : ∃ e, d = e + 1 := ⟨d - 1, by omega⟩
  refine ev_ref_of (P := ev_rng) (lv := [(0, .long a0)]) (by decide +kernel) (by (try simp only [ev_sum, ev_nv_cat]); first | done | rfl) (by (try simp only [lv_args, ev_nv_cat]); first | done | rfl) ?_ x S' hJ
  unfold jm_266
  refine ev_r_lload_n (pc := 0) (k := 0) (v := a0) (by decide +kernel) (by rfl) ?_
  refine ev_r_ldc2 (pc := 1) (y := 501) (k := 1000000) (by decide +kernel) (by decide +kernel) ?_
  refine ev_r_toI (pc := 4) (i := .lcmp) (len := 1) (pc' := 5) (by decide +kernel) rfl ?_
  intro x1 hx1
  refine ev_r_if (pc := 5) (q := .le) (o := 9) (t := 14) (c := x1 ≤ 0) (by decide +kernel) (ev_k_le hx1 ev_rng0) (by decide +kernel) ?_ ?_
  · intro c2
    refine ev_r_lload_n (pc := 14) (k := 0) (v := a0) (by decide +kernel) (by rfl) ?_
    refine ev_r_toI (pc := 15) (i := .l2i) (len := 1) (pc' := 16) (by decide +kernel) rfl ?_
    intro x3 hx3
    exact ev_r_ireturn (pc := 16) (x := x3) (v := Int32.ofInt x3) (ty := .int) hx3 (by decide +kernel) (by decide +kernel) rfl rfl
  · intro c2
    refine ev_r_ldcw (pc := 8) (y := 503) (k := 1000000) (by decide +kernel) (by decide +kernel) ?_
    refine ev_r_goto (pc := 11) (o := 5) (t := 16) (by decide +kernel) (by decide +kernel) ?_
    exact ev_r_ireturn (pc := 16) (x := 1000000) (v := Int32.ofInt 1000000) (ty := .int) (by decide) (by decide +kernel) (by decide +kernel) rfl rfl
/-- MendBenchModel.isPart(I)Z -/
def jm_267 (Q : Nat) (a0 : Int) (S : ev_St) : Option ((Int) × ev_St) := if a0 = 8 then (some (1, S)) else (if a0 = 9 then (some (1, S)) else (if a0 ≠ 10 then (some (0, S)) else (some (1, S))))
theorem jt_267 (d : Nat) (hd : 1 ≤ d) (Q : Nat) (a0 : Int) (ha0 : ev_rng a0) (S : ev_St) (x : Int) (S' : ev_St) (hJ : jm_267 Q a0 S = some (x, S')) : ev_Ref d 267 [.int (Int32.ofInt a0)] S (ev_eI x) S' (ev_bl x) := by
  obtain ⟨d, rfl⟩ : ∃ e, d = e + 1 := ⟨d - 1, by omega⟩
  refine ev_ref_of (P := ev_bl) (lv := [(0, .int (Int32.ofInt a0))]) (by decide +kernel) (by (try simp only [ev_sum, ev_nv_cat]); first | done | rfl) (by (try simp only [lv_args, ev_nv_cat]); first | done | rfl) ?_ x S' hJ
  unfold jm_267
  refine ev_r_iload_n (pc := 0) (k := 0) (v := Int32.ofInt a0) (by decide +kernel) (by rfl) ?_
  refine ev_r_bipush (pc := 1) (k := 8) (by decide +kernel) (by decide +kernel) ?_
  refine ev_r_icmp (pc := 3) (q := .eq) (o := 15) (t := 18) (c := a0 = 8) (by decide +kernel) (ev_k_eq ha0 (by decide)) (by decide +kernel) ?_ ?_
  · intro c1
    refine ev_r_iconst (pc := 18) (k := 1) (by decide +kernel) ?_
    refine ev_r_goto (pc := 19) (o := 4) (t := 23) (by decide +kernel) (by decide +kernel) ?_
    exact ev_r_ireturn (pc := 23) (x := 1) (v := Int32.ofInt 1) (ty := .boolean) (by decide : ev_bl 1) (by decide +kernel) (by decide +kernel) (ev_ret_bl (by decide : ev_bl 1)) rfl
  · intro c1
    refine ev_r_iload_n (pc := 6) (k := 0) (v := Int32.ofInt a0) (by decide +kernel) (by rfl) ?_
    refine ev_r_bipush (pc := 7) (k := 9) (by decide +kernel) (by decide +kernel) ?_
    refine ev_r_icmp (pc := 9) (q := .eq) (o := 9) (t := 18) (c := a0 = 9) (by decide +kernel) (ev_k_eq ha0 (by decide)) (by decide +kernel) ?_ ?_
    · intro c2
      refine ev_r_iconst (pc := 18) (k := 1) (by decide +kernel) ?_
      refine ev_r_goto (pc := 19) (o := 4) (t := 23) (by decide +kernel) (by decide +kernel) ?_
      exact ev_r_ireturn (pc := 23) (x := 1) (v := Int32.ofInt 1) (ty := .boolean) (by decide : ev_bl 1) (by decide +kernel) (by decide +kernel) (ev_ret_bl (by decide : ev_bl 1)) rfl
    · intro c2
      refine ev_r_iload_n (pc := 12) (k := 0) (v := Int32.ofInt a0) (by decide +kernel) (by rfl) ?_
      refine ev_r_bipush (pc := 13) (k := 10) (by decide +kernel) (by decide +kernel) ?_
      refine ev_r_icmp (pc := 15) (q := .ne) (o := 7) (t := 22) (c := a0 ≠ 10) (by decide +kernel) (ev_k_ne ha0 (by decide)) (by decide +kernel) ?_ ?_
      · intro c3
        refine ev_r_iconst (pc := 22) (k := 0) (by decide +kernel) ?_
        exact ev_r_ireturn (pc := 23) (x := 0) (v := Int32.ofInt 0) (ty := .boolean) (by decide : ev_bl 0) (by decide +kernel) (by decide +kernel) (ev_ret_bl (by decide : ev_bl 0)) rfl
      · intro c3
        refine ev_r_iconst (pc := 18) (k := 1) (by decide +kernel) ?_
        refine ev_r_goto (pc := 19) (o := 4) (t := 23) (by decide +kernel) (by decide +kernel) ?_
        exact ev_r_ireturn (pc := 23) (x := 1) (v := Int32.ofInt 1) (ty := .boolean) (by decide : ev_bl 1) (by decide +kernel) (by decide +kernel) (ev_ret_bl (by decide : ev_bl 1)) rfl
def jb_268_45 (Q : Nat) (x4 : Int) (x5 : Int) (K15 : Int → Int → ev_St → Option ((Unit) × ev_St)) (K45 : Int → Int → Int64 → Int64 → Int → Int → ev_St → Option ((Unit) × ev_St)) (x14 : Int) (x15 : Int) (y16 : Int64) (y17 : Int64) (x18 : Int) (x19 : Int) (s30 : ev_St) : Option ((Unit) × ev_St) := if x19 = (-1) then (ev_if ((0 : Int) ≤ x14 ∧ x14 < (ev_aln 625 : Int)) (ev_b (s30.1 625 (Int.toNat x14)) fun x32 => ev_bd (jm_267 Q x32 s30) fun x34 s33 => ev_jn (fun (x35 : Int) (s45 : ev_St) => ev_if ((0 : Int) ≤ x14 ∧ x14 < (ev_aln 625 : Int)) (ev_b (s45.1 625 (Int.toNat x14)) fun x46 => ev_jn (fun (x49 : Int) (x48 : Int) (r47 : Nat) (s57 : ev_St) => ev_if ((0 : Int) ≤ x48 ∧ x48 < (ev_aln r47 : Int)) (ev_b (ev_pI s57 r47 (Int.toNat x48) x49) fun s58 => ev_if ((0 : Int) ≤ x14 ∧ x14 < (ev_aln 625 : Int)) (ev_b (s58.1 625 (Int.toNat x14)) fun x59 => ev_jn (fun (y60 : Int64) (s66 : ev_St) => ev_bd (jm_266 Q y60 s66) fun x68 s67 => ev_if ((0 : Int) ≤ x14 ∧ x14 < (ev_aln 642 : Int)) (ev_b (ev_pI s67 642 (Int.toNat x14) x68) fun s69 => ev_if ((0 : Int) ≤ x14 ∧ x14 < (ev_aln 630 : Int)) (ev_b (s69.1 630 (Int.toNat x14)) fun x70 => ev_jn (fun (y71 : Int64) (x74 : Int) (x73 : Int) (r72 : Nat) (s81 : ev_St) => ev_if ((0 : Int) ≤ x73 ∧ x73 < (ev_aln r72 : Int)) (ev_b (ev_pI s81 r72 (Int.toNat x73) x74) fun s82 => ev_if ((0 : Int) ≤ x14 ∧ x14 < (ev_aln 630 : Int)) (ev_b (s82.1 630 (Int.toNat x14)) fun x83 => ev_jn (fun (x86 : Int) (x85 : Int) (r84 : Nat) (s91 : ev_St) => ev_if ((0 : Int) ≤ x85 ∧ x85 < (ev_aln r84 : Int)) (ev_b (ev_pI s91 r84 (Int.toNat x85) x86) fun s92 => ev_ck (x5 + (-1)) fun x93 => K15 x4 x93 s92)) fun K437 => if x83 ≠ (-1) then (ev_if ((0 : Int) ≤ x14 ∧ x14 < (ev_aln 632 : Int)) (ev_b (s82.1 632 (Int.toNat x14)) fun x95 => if x95 = (-1) then (ev_if ((0 : Int) ≤ x14 ∧ x14 < (ev_aln 631 : Int)) (ev_b (s82.1 631 (Int.toNat x14)) fun x97 => ev_b (ev_i2l x97) fun y98 => ev_b (y98 + (Int64.ofNat ((1 : Fin 2) : Nat))) fun y99 => ev_b (y71 * y99) fun y100 => ev_b (y100 + (2)) fun y101 => ev_bd (jm_266 Q y101 s82) fun x103 s102 => K437 x103 x14 643 s102)) else (ev_b (y71 + (Int64.ofNat ((1 : Fin 2) : Nat))) fun y104 => ev_if ((0 : Int) ≤ x14 ∧ x14 < (ev_aln 632 : Int)) (ev_b (s82.1 632 (Int.toNat x14)) fun x105 => ev_b (ev_i2l x105) fun y106 => ev_b (y104 * y106) fun y107 => ev_bd (jm_266 Q y107 s82) fun x109 s108 => K437 x109 x14 643 s108)))) else (ev_if ((0 : Int) ≤ x14 ∧ x14 < (ev_aln 642 : Int)) (ev_b (s82.1 642 (Int.toNat x14)) fun x110 => K437 x110 x14 643 s82))))) fun K359 => if x70 ≠ (-1) then (ev_if ((0 : Int) ≤ x14 ∧ x14 < (ev_aln 640 : Int)) (ev_b (s69.1 640 (Int.toNat x14)) fun x112 => ev_b (ev_i2l x112) fun y113 => ev_if ((0 : Int) ≤ x14 ∧ x14 < (ev_aln 631 : Int)) (ev_b (s69.1 631 (Int.toNat x14)) fun x114 => ev_b (ev_i2l x114) fun y115 => ev_b (y113 * y115) fun y116 => ev_bd (jm_266 Q y116 s69) fun x118 s117 => K359 y60 x118 x14 641 s117))) else (ev_if ((0 : Int) ≤ x14 ∧ x14 < (ev_aln 640 : Int)) (ev_b (s69.1 640 (Int.toNat x14)) fun x119 => K359 y60 x119 x14 641 s69))))) fun K298 => if x59 ≠ 18 then (ev_if ((0 : Int) ≤ x14 ∧ x14 < (ev_aln 625 : Int)) (ev_b (s58.1 625 (Int.toNat x14)) fun x121 => if 7 ≤ x121 then (ev_jn (fun (x125 : Int) (y124 : Int64) (y123 : Int64) (s131 : ev_St) => ev_b (ev_i2l x125) fun y132 => ev_b (y124 * y132) fun y133 => ev_b (y123 + y133) fun y134 => ev_if ((0 : Int) ≤ x14 ∧ x14 < (ev_aln 625 : Int)) (ev_b (s131.1 625 (Int.toNat x14)) fun x135 => ev_jn (fun (y137 : Int64) (y136 : Int64) (s143 : ev_St) => ev_b (y136 + y137) fun y144 => K298 y144 s143) fun K297 => if x135 ≠ 8 then (K297 ((Int64.ofNat ((0 : Fin 2) : Nat))) y134 s131) else (K297 ((2)) y134 s131))) fun K275 => if x18 ≤ 0 then (K275 0 ((2)) y17 s58) else (ev_ck (x18 - 1) fun x147 => K275 x147 ((2)) y17 s58)) else (K298 ((Int64.ofNat ((1 : Fin 2) : Nat))) s58))) else (K298 y17 s58)))) fun K223 => if x46 ≠ 18 then (ev_if ((0 : Int) ≤ x14 ∧ x14 < (ev_aln 625 : Int)) (ev_b (s45.1 625 (Int.toNat x14)) fun x149 => if x149 ≠ 0 then (if x35 = 0 then (K223 0 x14 640 s45) else (K223 x15 x14 640 s45)) else (K223 1 x14 640 s45))) else (ev_bd (jm_266 Q y16 s45) fun x153 s152 => K223 x153 x14 640 s152))) fun K170 => ev_jn (fun  (s163 : ev_St) => K170 1 s163) fun K165 => if x34 ≠ 0 then (K165  s33) else (ev_if ((0 : Int) ≤ x14 ∧ x14 < (ev_aln 625 : Int)) (ev_b (s33.1 625 (Int.toNat x14)) fun x165 => ev_jn (fun  (s175 : ev_St) => K170 0 s175) fun K169 => if x165 ≠ 13 then (K169  s33) else (if x18 ≤ 1 then (K169  s33) else (K165  s33)))))) else (ev_jn (fun (x178 : Int) (s188 : ev_St) => ev_ck (x4 + x19) fun x189 => ev_if ((0 : Int) ≤ x189 ∧ x189 < (ev_aln 641 : Int)) (ev_b (s188.1 641 (Int.toNat x189)) fun x190 => ev_b (ev_i2l x190) fun y191 => ev_b (y16 + y191) fun y192 => ev_ck (x4 + x19) fun x193 => ev_if ((0 : Int) ≤ x193 ∧ x193 < (ev_aln 643 : Int)) (ev_b (s188.1 643 (Int.toNat x193)) fun x194 => ev_b (ev_i2l x194) fun y195 => ev_b (y17 + y195) fun y196 => ev_ck (x18 + 1) fun x197 => ev_ck (x4 + x19) fun x198 => ev_if ((0 : Int) ≤ x198 ∧ x198 < (ev_aln 627 : Int)) (ev_b (s188.1 627 (Int.toNat x198)) fun x199 => K45 x14 x178 y192 y196 x197 x199 s188)))) fun K85 => ev_jn (fun  (s209 : ev_St) => ev_ck (x4 + x19) fun x210 => ev_if ((0 : Int) ≤ x210 ∧ x210 < (ev_aln 640 : Int)) (ev_b (s209.1 640 (Int.toNat x210)) fun x211 => K85 x211 s209)) fun K71 => if x15 = (-1) then (K71  s30) else (ev_ck (x4 + x19) fun x213 => ev_if ((0 : Int) ≤ x213 ∧ x213 < (ev_aln 640 : Int)) (ev_b (s30.1 640 (Int.toNat x213)) fun x214 => if x15 ≤ x214 then (K85 x15 s30) else (K71  s30))))
def jl_268_45 (Q : Nat) (x4 : Int) (x5 : Int) (K15 : Int → Int → ev_St → Option ((Unit) × ev_St)) : Nat → Int → Int → Int64 → Int64 → Int → Int → ev_St → Option ((Unit) × ev_St)
  | 0 => fun _ _ _ _ _ _ _ => none
  | q + 1 => jb_268_45 Q x4 x5 K15 (jl_268_45 Q x4 x5 K15 q)
theorem jbt_268_45 (d : Nat) (hd : 2 ≤ d + 1) (Q : Nat) (x4 : Int) (x5 : Int) (hx4 : ev_rng x4) (hx5 : ev_rng x5) (K15 : Int → Int → ev_St → Option ((Unit) × ev_St)) (hK15 : ∀ (x4 : Int) (hx4 : ev_rng x4), ∀ (x5 : Int) (hx5 : ev_rng x5), ∀ (s10 : ev_St) (w6 : List (Nat × Value)), ev_lk w6 0 = some (.ref 621) → ev_lk w6 2 = some (.int (Int32.ofInt x4)) → ev_lk w6 3 = some (.int (Int32.ofInt x5)) → ev_w none (ev_Mof 268) d 15 w6 [] s10 (K15 x4 x5 s10) ev_eU ev_PU) (K45 : Int → Int → Int64 → Int64 → Int → Int → ev_St → Option ((Unit) × ev_St)) (hK45 : ∀ (x14 : Int) (hx14 : ev_rng x14), ∀ (x15 : Int) (hx15 : ev_rng x15), ∀ (y16 : Int64), ∀ (y17 : Int64), ∀ (x18 : Int) (hx18 : ev_rng x18), ∀ (x19 : Int) (hx19 : ev_rng x19), ∀ (s30 : ev_St) (w20 : List (Nat × Value)), ev_lk w20 0 = some (.ref 621) → ev_lk w20 2 = some (.int (Int32.ofInt x4)) → ev_lk w20 3 = some (.int (Int32.ofInt x5)) → ev_lk w20 4 = some (.int (Int32.ofInt x14)) → ev_lk w20 5 = some (.int (Int32.ofInt x15)) → ev_lk w20 6 = some (.long y16) → ev_lk w20 8 = some (.long y17) → ev_lk w20 10 = some (.int (Int32.ofInt x18)) → ev_lk w20 11 = some (.int (Int32.ofInt x19)) → ev_w none (ev_Mof 268) d 45 w20 [] s30 (K45 x14 x15 y16 y17 x18 x19 s30) ev_eU ev_PU) : ∀ (x14 : Int) (hx14 : ev_rng x14), ∀ (x15 : Int) (hx15 : ev_rng x15), ∀ (y16 : Int64), ∀ (y17 : Int64), ∀ (x18 : Int) (hx18 : ev_rng x18), ∀ (x19 : Int) (hx19 : ev_rng x19), ∀ (s30 : ev_St) (w20 : List (Nat × Value)), ev_lk w20 0 = some (.ref 621) → ev_lk w20 2 = some (.int (Int32.ofInt x4)) → ev_lk w20 3 = some (.int (Int32.ofInt x5)) → ev_lk w20 4 = some (.int (Int32.ofInt x14)) → ev_lk w20 5 = some (.int (Int32.ofInt x15)) → ev_lk w20 6 = some (.long y16) → ev_lk w20 8 = some (.long y17) → ev_lk w20 10 = some (.int (Int32.ofInt x18)) → ev_lk w20 11 = some (.int (Int32.ofInt x19)) → ev_w none (ev_Mof 268) d 45 w20 [] s30 (jb_268_45 Q x4 x5 K15 K45 x14 x15 y16 y17 x18 x19 s30) ev_eU ev_PU := by
  intro x14 hx14 x15 hx15 y16 y17 x18 hx18 x19 hx19 s30 w20 e21 e22 e23 e24 e25 e26 e27 e28 e29
  unfold jb_268_45
  refine ev_r_iload (pc := 45) (k := 11) (v := Int32.ofInt x19) (by decide +kernel) (by exact e29) ?_
  refine ev_r_iconst (pc := 47) (k := -1) (by decide +kernel) ?_
  refine ev_r_icmp (pc := 48) (q := .eq) (o := 86) (t := 134) (c := x19 = (-1)) (by decide +kernel) (ev_k_eq hx19 (by decide)) (by decide +kernel) ?_ ?_
  · intro c31
    refine ev_r_aload_n (pc := 134) (k := 0) (v := .ref 621) trivial (by decide +kernel) (by exact e21) ?_
    refine ev_r_getC (pc := 135) (y := 19) (ci := 13) (f := 6) (fin := 1) (k' := 625) (by decide +kernel) (by decide +kernel) (by exact ev_ob_621) rfl rfl ?_
    refine ev_r_iload (pc := 138) (k := 4) (v := Int32.ofInt x14) (by decide +kernel) (by exact e24) ?_
    refine ev_r_iald (pc := 140) hx14 (by decide +kernel) (by exact ev_ab_625) ?_
    intro x32 hx32
    refine ev_r_stat (pc := 141) (y := 504) (kind := 2) (mi := 267) (na := 1) (as := [.int (Int32.ofInt x32)]) (rest := []) (encc := ev_oI) (Q := ev_bl) (fun x S1 h => jt_267 d (by omega) Q x32 hx32 s30 x S1 h) (Or.inl rfl) (by decide +kernel) (by decide +kernel) (by decide +kernel) (by decide +kernel) rfl (by (try simp only [ev_sum, ev_nv_cat]); first | done | rfl) ?_
    intro x34 s33 hx34
    replace hx34 := ev_bl_rng hx34
    show ev_w _ _ _ _ _ [.int (Int32.ofInt x34)] _ _ _ _
    refine ev_r_jn (Q := fun K => ∀ (x35 : Int) (hx35 : ev_rng x35), ∀ (s45 : ev_St) (w36 : List (Nat × Value)), ev_lk w36 0 = some (.ref 621) → ev_lk w36 2 = some (.int (Int32.ofInt x4)) → ev_lk w36 3 = some (.int (Int32.ofInt x5)) → ev_lk w36 4 = some (.int (Int32.ofInt x14)) → ev_lk w36 5 = some (.int (Int32.ofInt x15)) → ev_lk w36 6 = some (.long y16) → ev_lk w36 8 = some (.long y17) → ev_lk w36 10 = some (.int (Int32.ofInt x18)) → ev_w none (ev_Mof 268) d 170 w36 [.int (Int32.ofInt x35)] s45 (K x35 s45) ev_eU ev_PU) ?_ ?_
    · intro x35 hx35 s45 w36 e37 e38 e39 e40 e41 e42 e43 e44
      refine ev_r_istore (pc := 170) (k := 11) (by decide +kernel) (by decide +kernel) rfl ?_
      refine ev_r_aload_n (pc := 172) (k := 0) (v := .ref 621) trivial (by decide +kernel) (by exact (ev_l1 e37 (by decide) (by decide))) ?_
      refine ev_r_getC (pc := 173) (y := 65) (ci := 13) (f := 21) (fin := 1) (k' := 640) (by decide +kernel) (by decide +kernel) (by exact ev_ob_621) rfl rfl ?_
      refine ev_r_iload (pc := 176) (k := 4) (v := Int32.ofInt x14) (by decide +kernel) (by exact (ev_l1 e40 (by decide) (by decide))) ?_
      refine ev_r_aload_n (pc := 178) (k := 0) (v := .ref 621) trivial (by decide +kernel) (by exact (ev_l1 e37 (by decide) (by decide))) ?_
      refine ev_r_getC (pc := 179) (y := 19) (ci := 13) (f := 6) (fin := 1) (k' := 625) (by decide +kernel) (by decide +kernel) (by exact ev_ob_621) rfl rfl ?_
      refine ev_r_iload (pc := 182) (k := 4) (v := Int32.ofInt x14) (by decide +kernel) (by exact (ev_l1 e40 (by decide) (by decide))) ?_
      refine ev_r_iald (pc := 184) hx14 (by decide +kernel) (by exact ev_ab_625) ?_
      intro x46 hx46
      refine ev_r_bipush (pc := 185) (k := 18) (by decide +kernel) (by decide +kernel) ?_
      refine ev_r_jn (Q := fun K => ∀ (x49 : Int) (hx49 : ev_rng x49), ∀ (x48 : Int) (hx48 : ev_rng x48), ∀ (r47 : Nat) (hr47 : ev_isAb r47 1 .int = true), ∀ (s57 : ev_St) (w50 : List (Nat × Value)), ev_lk w50 0 = some (.ref 621) → ev_lk w50 2 = some (.int (Int32.ofInt x4)) → ev_lk w50 3 = some (.int (Int32.ofInt x5)) → ev_lk w50 4 = some (.int (Int32.ofInt x14)) → ev_lk w50 8 = some (.long y17) → ev_lk w50 10 = some (.int (Int32.ofInt x18)) → ev_w none (ev_Mof 268) d 223 w50 [.int (Int32.ofInt x49), .int (Int32.ofInt x48), .ref r47] s57 (K x49 x48 r47 s57) ev_eU ev_PU) ?_ ?_
      · intro x49 hx49 x48 hx48 r47 hr47 s57 w50 e51 e52 e53 e54 e55 e56
        refine ev_r_iast (pc := 223) hx49 hx48 (by decide +kernel) (by exact hr47) ?_
        intro s58
        refine ev_r_aload_n (pc := 224) (k := 0) (v := .ref 621) trivial (by decide +kernel) (by exact e51) ?_
        refine ev_r_getC (pc := 225) (y := 19) (ci := 13) (f := 6) (fin := 1) (k' := 625) (by decide +kernel) (by decide +kernel) (by exact ev_ob_621) rfl rfl ?_
        refine ev_r_iload (pc := 228) (k := 4) (v := Int32.ofInt x14) (by decide +kernel) (by exact e54) ?_
        refine ev_r_iald (pc := 230) hx14 (by decide +kernel) (by exact ev_ab_625) ?_
        intro x59 hx59
        refine ev_r_bipush (pc := 231) (k := 18) (by decide +kernel) (by decide +kernel) ?_
        refine ev_r_jn (Q := fun K => ∀ (y60 : Int64), ∀ (s66 : ev_St) (w61 : List (Nat × Value)), ev_lk w61 0 = some (.ref 621) → ev_lk w61 2 = some (.int (Int32.ofInt x4)) → ev_lk w61 3 = some (.int (Int32.ofInt x5)) → ev_lk w61 4 = some (.int (Int32.ofInt x14)) → ev_w none (ev_Mof 268) d 298 w61 [.long y60] s66 (K y60 s66) ev_eU ev_PU) ?_ ?_
        · intro y60 s66 w61 e62 e63 e64 e65
          refine ev_r_lstore (pc := 298) (k := 12) (by decide +kernel) (by decide +kernel) rfl ?_
          refine ev_r_aload_n (pc := 300) (k := 0) (v := .ref 621) trivial (by decide +kernel) (by exact (ev_l2 e62 (by decide) (by decide) (Or.inl (by decide)))) ?_
          refine ev_r_getC (pc := 301) (y := 71) (ci := 13) (f := 23) (fin := 1) (k' := 642) (by decide +kernel) (by decide +kernel) (by exact ev_ob_621) rfl rfl ?_
          refine ev_r_iload (pc := 304) (k := 4) (v := Int32.ofInt x14) (by decide +kernel) (by exact (ev_l2 e65 (by decide) (by decide) (Or.inl (by decide)))) ?_
          refine ev_r_lload (pc := 306) (k := 12) (v := y60) (by decide +kernel) (by exact ev_l2s) ?_
          refine ev_r_stat (pc := 308) (y := 507) (kind := 2) (mi := 266) (na := 1) (as := [.long y60]) (rest := [.int (Int32.ofInt x14), .ref 642]) (encc := ev_oI) (Q := ev_rng) (fun x S1 h => jt_266 d (by omega) Q y60  s66 x S1 h) (Or.inl rfl) (by decide +kernel) (by decide +kernel) (by decide +kernel) (by decide +kernel) rfl (by (try simp only [ev_sum, ev_nv_cat]); first | done | rfl) ?_
          intro x68 s67 hx68
          show ev_w _ _ _ _ _ [.int (Int32.ofInt x68), .int (Int32.ofInt x14), .ref 642] _ _ _ _
          refine ev_r_iast (pc := 311) hx68 hx14 (by decide +kernel) (by exact ev_ab_642) ?_
          intro s69
          refine ev_r_aload_n (pc := 312) (k := 0) (v := .ref 621) trivial (by decide +kernel) (by exact (ev_l2 e62 (by decide) (by decide) (Or.inl (by decide)))) ?_
          refine ev_r_getC (pc := 313) (y := 68) (ci := 13) (f := 22) (fin := 1) (k' := 641) (by decide +kernel) (by decide +kernel) (by exact ev_ob_621) rfl rfl ?_
          refine ev_r_iload (pc := 316) (k := 4) (v := Int32.ofInt x14) (by decide +kernel) (by exact (ev_l2 e65 (by decide) (by decide) (Or.inl (by decide)))) ?_
          refine ev_r_aload_n (pc := 318) (k := 0) (v := .ref 621) trivial (by decide +kernel) (by exact (ev_l2 e62 (by decide) (by decide) (Or.inl (by decide)))) ?_
          refine ev_r_getC (pc := 319) (y := 34) (ci := 13) (f := 11) (fin := 1) (k' := 630) (by decide +kernel) (by decide +kernel) (by exact ev_ob_621) rfl rfl ?_
          refine ev_r_iload (pc := 322) (k := 4) (v := Int32.ofInt x14) (by decide +kernel) (by exact (ev_l2 e65 (by decide) (by decide) (Or.inl (by decide)))) ?_
          refine ev_r_iald (pc := 324) hx14 (by decide +kernel) (by exact ev_ab_630) ?_
          intro x70 hx70
          refine ev_r_iconst (pc := 325) (k := -1) (by decide +kernel) ?_
          refine ev_r_jn (Q := fun K => ∀ (y71 : Int64), ∀ (x74 : Int) (hx74 : ev_rng x74), ∀ (x73 : Int) (hx73 : ev_rng x73), ∀ (r72 : Nat) (hr72 : ev_isAb r72 1 .int = true), ∀ (s81 : ev_St) (w75 : List (Nat × Value)), ev_lk w75 0 = some (.ref 621) → ev_lk w75 2 = some (.int (Int32.ofInt x4)) → ev_lk w75 3 = some (.int (Int32.ofInt x5)) → ev_lk w75 4 = some (.int (Int32.ofInt x14)) → ev_lk w75 12 = some (.long y71) → ev_w none (ev_Mof 268) d 359 w75 [.int (Int32.ofInt x74), .int (Int32.ofInt x73), .ref r72] s81 (K y71 x74 x73 r72 s81) ev_eU ev_PU) ?_ ?_
          · intro y71 x74 hx74 x73 hx73 r72 hr72 s81 w75 e76 e77 e78 e79 e80
            refine ev_r_iast (pc := 359) hx74 hx73 (by decide +kernel) (by exact hr72) ?_
            intro s82
            refine ev_r_aload_n (pc := 360) (k := 0) (v := .ref 621) trivial (by decide +kernel) (by exact e76) ?_
            refine ev_r_getC (pc := 361) (y := 74) (ci := 13) (f := 24) (fin := 1) (k' := 643) (by decide +kernel) (by decide +kernel) (by exact ev_ob_621) rfl rfl ?_
            refine ev_r_iload (pc := 364) (k := 4) (v := Int32.ofInt x14) (by decide +kernel) (by exact e79) ?_
            refine ev_r_aload_n (pc := 366) (k := 0) (v := .ref 621) trivial (by decide +kernel) (by exact e76) ?_
            refine ev_r_getC (pc := 367) (y := 34) (ci := 13) (f := 11) (fin := 1) (k' := 630) (by decide +kernel) (by decide +kernel) (by exact ev_ob_621) rfl rfl ?_
            refine ev_r_iload (pc := 370) (k := 4) (v := Int32.ofInt x14) (by decide +kernel) (by exact e79) ?_
            refine ev_r_iald (pc := 372) hx14 (by decide +kernel) (by exact ev_ab_630) ?_
            intro x83 hx83
            refine ev_r_iconst (pc := 373) (k := -1) (by decide +kernel) ?_
            refine ev_r_jn (Q := fun K => ∀ (x86 : Int) (hx86 : ev_rng x86), ∀ (x85 : Int) (hx85 : ev_rng x85), ∀ (r84 : Nat) (hr84 : ev_isAb r84 1 .int = true), ∀ (s91 : ev_St) (w87 : List (Nat × Value)), ev_lk w87 0 = some (.ref 621) → ev_lk w87 2 = some (.int (Int32.ofInt x4)) → ev_lk w87 3 = some (.int (Int32.ofInt x5)) → ev_w none (ev_Mof 268) d 437 w87 [.int (Int32.ofInt x86), .int (Int32.ofInt x85), .ref r84] s91 (K x86 x85 r84 s91) ev_eU ev_PU) ?_ ?_
            · intro x86 hx86 x85 hx85 r84 hr84 s91 w87 e88 e89 e90
              refine ev_r_iast (pc := 437) hx86 hx85 (by decide +kernel) (by exact hr84) ?_
              intro s92
              refine ev_r_iinc (pc := 438) (k := 3) (c := -1) (x := x5) (by decide +kernel) (by decide +kernel) (by exact e90) (fun _ => rfl) ?_
              intro x93 hx93
              refine ev_r_goto (pc := 441) (o := (-426)) (t := 15) (by decide +kernel) (by decide +kernel) ?_
              exact hK15 x4 hx4 x93 hx93 s92 _ (by exact (ev_l1 e88 (by decide) (by decide))) (by exact (ev_lk_st1 e89 (by decide) rfl)) (by exact ev_lk_st1_self)
            · intro K437 hK437
              refine ev_r_icmp (pc := 374) (q := .ne) (o := 13) (t := 387) (c := x83 ≠ (-1)) (by decide +kernel) (ev_k_ne hx83 (by decide)) (by decide +kernel) ?_ ?_
              · intro c94
                refine ev_r_aload_n (pc := 387) (k := 0) (v := .ref 621) trivial (by decide +kernel) (by exact e76) ?_
                refine ev_r_getC (pc := 388) (y := 40) (ci := 13) (f := 13) (fin := 1) (k' := 632) (by decide +kernel) (by decide +kernel) (by exact ev_ob_621) rfl rfl ?_
                refine ev_r_iload (pc := 391) (k := 4) (v := Int32.ofInt x14) (by decide +kernel) (by exact e79) ?_
                refine ev_r_iald (pc := 393) hx14 (by decide +kernel) (by exact ev_ab_632) ?_
                intro x95 hx95
                refine ev_r_iconst (pc := 394) (k := -1) (by decide +kernel) ?_
                refine ev_r_icmp (pc := 395) (q := .eq) (o := 22) (t := 417) (c := x95 = (-1)) (by decide +kernel) (ev_k_eq hx95 (by decide)) (by decide +kernel) ?_ ?_
                · intro c96
                  refine ev_r_lload (pc := 417) (k := 12) (v := y71) (by decide +kernel) (by exact e80) ?_
                  refine ev_r_aload_n (pc := 419) (k := 0) (v := .ref 621) trivial (by decide +kernel) (by exact e76) ?_
                  refine ev_r_getC (pc := 420) (y := 37) (ci := 13) (f := 12) (fin := 1) (k' := 631) (by decide +kernel) (by decide +kernel) (by exact ev_ob_621) rfl rfl ?_
                  refine ev_r_iload (pc := 423) (k := 4) (v := Int32.ofInt x14) (by decide +kernel) (by exact e79) ?_
                  refine ev_r_iald (pc := 425) hx14 (by decide +kernel) (by exact ev_ab_631) ?_
                  intro x97 hx97
                  refine ev_r_toL (pc := 426) (i := .i2l) (len := 1) (pc' := 427) (by decide +kernel) rfl ?_
                  intro y98
                  refine ev_r_lconst (pc := 427) (c := 1) (by decide +kernel) ?_
                  refine ev_r_toL (pc := 428) (i := .ladd) (len := 1) (pc' := 429) (by decide +kernel) rfl ?_
                  intro y99
                  refine ev_r_toL (pc := 429) (i := .lmul) (len := 1) (pc' := 430) (by decide +kernel) rfl ?_
                  intro y100
                  refine ev_r_ldc2 (pc := 430) (y := 511) (k := 2) (by decide +kernel) (by decide +kernel) ?_
                  refine ev_r_toL (pc := 433) (i := .ladd) (len := 1) (pc' := 434) (by decide +kernel) rfl ?_
                  intro y101
                  refine ev_r_stat (pc := 434) (y := 507) (kind := 2) (mi := 266) (na := 1) (as := [.long y101]) (rest := [.int (Int32.ofInt x14), .ref 643]) (encc := ev_oI) (Q := ev_rng) (fun x S1 h => jt_266 d (by omega) Q y101  s82 x S1 h) (Or.inl rfl) (by decide +kernel) (by decide +kernel) (by decide +kernel) (by decide +kernel) rfl (by (try simp only [ev_sum, ev_nv_cat]); first | done | rfl) ?_
                  intro x103 s102 hx103
                  show ev_w _ _ _ _ _ [.int (Int32.ofInt x103), .int (Int32.ofInt x14), .ref 643] _ _ _ _
                  exact hK437 x103 hx103 x14 hx14 643 ev_ab_643 s102 _ (by exact e76) (by exact e77) (by exact e78)
                · intro c96
                  refine ev_r_lload (pc := 398) (k := 12) (v := y71) (by decide +kernel) (by exact e80) ?_
                  refine ev_r_lconst (pc := 400) (c := 1) (by decide +kernel) ?_
                  refine ev_r_toL (pc := 401) (i := .ladd) (len := 1) (pc' := 402) (by decide +kernel) rfl ?_
                  intro y104
                  refine ev_r_aload_n (pc := 402) (k := 0) (v := .ref 621) trivial (by decide +kernel) (by exact e76) ?_
                  refine ev_r_getC (pc := 403) (y := 40) (ci := 13) (f := 13) (fin := 1) (k' := 632) (by decide +kernel) (by decide +kernel) (by exact ev_ob_621) rfl rfl ?_
                  refine ev_r_iload (pc := 406) (k := 4) (v := Int32.ofInt x14) (by decide +kernel) (by exact e79) ?_
                  refine ev_r_iald (pc := 408) hx14 (by decide +kernel) (by exact ev_ab_632) ?_
                  intro x105 hx105
                  refine ev_r_toL (pc := 409) (i := .i2l) (len := 1) (pc' := 410) (by decide +kernel) rfl ?_
                  intro y106
                  refine ev_r_toL (pc := 410) (i := .lmul) (len := 1) (pc' := 411) (by decide +kernel) rfl ?_
                  intro y107
                  refine ev_r_stat (pc := 411) (y := 507) (kind := 2) (mi := 266) (na := 1) (as := [.long y107]) (rest := [.int (Int32.ofInt x14), .ref 643]) (encc := ev_oI) (Q := ev_rng) (fun x S1 h => jt_266 d (by omega) Q y107  s82 x S1 h) (Or.inl rfl) (by decide +kernel) (by decide +kernel) (by decide +kernel) (by decide +kernel) rfl (by (try simp only [ev_sum, ev_nv_cat]); first | done | rfl) ?_
                  intro x109 s108 hx109
                  show ev_w _ _ _ _ _ [.int (Int32.ofInt x109), .int (Int32.ofInt x14), .ref 643] _ _ _ _
                  refine ev_r_goto (pc := 414) (o := 23) (t := 437) (by decide +kernel) (by decide +kernel) ?_
                  exact hK437 x109 hx109 x14 hx14 643 ev_ab_643 s108 _ (by exact e76) (by exact e77) (by exact e78)
              · intro c94
                refine ev_r_aload_n (pc := 377) (k := 0) (v := .ref 621) trivial (by decide +kernel) (by exact e76) ?_
                refine ev_r_getC (pc := 378) (y := 71) (ci := 13) (f := 23) (fin := 1) (k' := 642) (by decide +kernel) (by decide +kernel) (by exact ev_ob_621) rfl rfl ?_
                refine ev_r_iload (pc := 381) (k := 4) (v := Int32.ofInt x14) (by decide +kernel) (by exact e79) ?_
                refine ev_r_iald (pc := 383) hx14 (by decide +kernel) (by exact ev_ab_642) ?_
                intro x110 hx110
                refine ev_r_goto (pc := 384) (o := 53) (t := 437) (by decide +kernel) (by decide +kernel) ?_
                exact hK437 x110 hx110 x14 hx14 643 ev_ab_643 s82 _ (by exact e76) (by exact e77) (by exact e78)
          · intro K359 hK359
            refine ev_r_icmp (pc := 326) (q := .ne) (o := 13) (t := 339) (c := x70 ≠ (-1)) (by decide +kernel) (ev_k_ne hx70 (by decide)) (by decide +kernel) ?_ ?_
            · intro c111
              refine ev_r_aload_n (pc := 339) (k := 0) (v := .ref 621) trivial (by decide +kernel) (by exact (ev_l2 e62 (by decide) (by decide) (Or.inl (by decide)))) ?_
              refine ev_r_getC (pc := 340) (y := 65) (ci := 13) (f := 21) (fin := 1) (k' := 640) (by decide +kernel) (by decide +kernel) (by exact ev_ob_621) rfl rfl ?_
              refine ev_r_iload (pc := 343) (k := 4) (v := Int32.ofInt x14) (by decide +kernel) (by exact (ev_l2 e65 (by decide) (by decide) (Or.inl (by decide)))) ?_
              refine ev_r_iald (pc := 345) hx14 (by decide +kernel) (by exact ev_ab_640) ?_
              intro x112 hx112
              refine ev_r_toL (pc := 346) (i := .i2l) (len := 1) (pc' := 347) (by decide +kernel) rfl ?_
              intro y113
              refine ev_r_aload_n (pc := 347) (k := 0) (v := .ref 621) trivial (by decide +kernel) (by exact (ev_l2 e62 (by decide) (by decide) (Or.inl (by decide)))) ?_
              refine ev_r_getC (pc := 348) (y := 37) (ci := 13) (f := 12) (fin := 1) (k' := 631) (by decide +kernel) (by decide +kernel) (by exact ev_ob_621) rfl rfl ?_
              refine ev_r_iload (pc := 351) (k := 4) (v := Int32.ofInt x14) (by decide +kernel) (by exact (ev_l2 e65 (by decide) (by decide) (Or.inl (by decide)))) ?_
              refine ev_r_iald (pc := 353) hx14 (by decide +kernel) (by exact ev_ab_631) ?_
              intro x114 hx114
              refine ev_r_toL (pc := 354) (i := .i2l) (len := 1) (pc' := 355) (by decide +kernel) rfl ?_
              intro y115
              refine ev_r_toL (pc := 355) (i := .lmul) (len := 1) (pc' := 356) (by decide +kernel) rfl ?_
              intro y116
              refine ev_r_stat (pc := 356) (y := 507) (kind := 2) (mi := 266) (na := 1) (as := [.long y116]) (rest := [.int (Int32.ofInt x14), .ref 641]) (encc := ev_oI) (Q := ev_rng) (fun x S1 h => jt_266 d (by omega) Q y116  s69 x S1 h) (Or.inl rfl) (by decide +kernel) (by decide +kernel) (by decide +kernel) (by decide +kernel) rfl (by (try simp only [ev_sum, ev_nv_cat]); first | done | rfl) ?_
              intro x118 s117 hx118
              show ev_w _ _ _ _ _ [.int (Int32.ofInt x118), .int (Int32.ofInt x14), .ref 641] _ _ _ _
              exact hK359 y60 x118 hx118 x14 hx14 641 ev_ab_641 s117 _ (by exact (ev_l2 e62 (by decide) (by decide) (Or.inl (by decide)))) (by exact (ev_l2 e63 (by decide) (by decide) (Or.inl (by decide)))) (by exact (ev_l2 e64 (by decide) (by decide) (Or.inl (by decide)))) (by exact (ev_l2 e65 (by decide) (by decide) (Or.inl (by decide)))) (by exact ev_l2s)
            · intro c111
              refine ev_r_aload_n (pc := 329) (k := 0) (v := .ref 621) trivial (by decide +kernel) (by exact (ev_l2 e62 (by decide) (by decide) (Or.inl (by decide)))) ?_
              refine ev_r_getC (pc := 330) (y := 65) (ci := 13) (f := 21) (fin := 1) (k' := 640) (by decide +kernel) (by decide +kernel) (by exact ev_ob_621) rfl rfl ?_
              refine ev_r_iload (pc := 333) (k := 4) (v := Int32.ofInt x14) (by decide +kernel) (by exact (ev_l2 e65 (by decide) (by decide) (Or.inl (by decide)))) ?_
              refine ev_r_iald (pc := 335) hx14 (by decide +kernel) (by exact ev_ab_640) ?_
              intro x119 hx119
              refine ev_r_goto (pc := 336) (o := 23) (t := 359) (by decide +kernel) (by decide +kernel) ?_
              exact hK359 y60 x119 hx119 x14 hx14 641 ev_ab_641 s69 _ (by exact (ev_l2 e62 (by decide) (by decide) (Or.inl (by decide)))) (by exact (ev_l2 e63 (by decide) (by decide) (Or.inl (by decide)))) (by exact (ev_l2 e64 (by decide) (by decide) (Or.inl (by decide)))) (by exact (ev_l2 e65 (by decide) (by decide) (Or.inl (by decide)))) (by exact ev_l2s)
        · intro K298 hK298
          refine ev_r_icmp (pc := 233) (q := .ne) (o := 8) (t := 241) (c := x59 ≠ 18) (by decide +kernel) (ev_k_ne hx59 (by decide)) (by decide +kernel) ?_ ?_
          · intro c120
            refine ev_r_aload_n (pc := 241) (k := 0) (v := .ref 621) trivial (by decide +kernel) (by exact e51) ?_
            refine ev_r_getC (pc := 242) (y := 19) (ci := 13) (f := 6) (fin := 1) (k' := 625) (by decide +kernel) (by decide +kernel) (by exact ev_ob_621) rfl rfl ?_
            refine ev_r_iload (pc := 245) (k := 4) (v := Int32.ofInt x14) (by decide +kernel) (by exact e54) ?_
            refine ev_r_iald (pc := 247) hx14 (by decide +kernel) (by exact ev_ab_625) ?_
            intro x121 hx121
            refine ev_r_bipush (pc := 248) (k := 7) (by decide +kernel) (by decide +kernel) ?_
            refine ev_r_icmp (pc := 250) (q := .ge) (o := 7) (t := 257) (c := 7 ≤ x121) (by decide +kernel) (ev_k_ge hx121 (by decide)) (by decide +kernel) ?_ ?_
            · intro c122
              refine ev_r_lload (pc := 257) (k := 8) (v := y17) (by decide +kernel) (by exact e55) ?_
              refine ev_r_ldc2 (pc := 259) (y := 511) (k := 2) (by decide +kernel) (by decide +kernel) ?_
              refine ev_r_iload (pc := 262) (k := 10) (v := Int32.ofInt x18) (by decide +kernel) (by exact e56) ?_
              refine ev_r_jn (Q := fun K => ∀ (x125 : Int) (hx125 : ev_rng x125), ∀ (y124 : Int64), ∀ (y123 : Int64), ∀ (s131 : ev_St) (w126 : List (Nat × Value)), ev_lk w126 0 = some (.ref 621) → ev_lk w126 2 = some (.int (Int32.ofInt x4)) → ev_lk w126 3 = some (.int (Int32.ofInt x5)) → ev_lk w126 4 = some (.int (Int32.ofInt x14)) → ev_w none (ev_Mof 268) d 275 w126 [.int (Int32.ofInt x125), .long y124, .long y123] s131 (K x125 y124 y123 s131) ev_eU ev_PU) ?_ ?_
              · intro x125 hx125 y124 y123 s131 w126 e127 e128 e129 e130
                refine ev_r_toL (pc := 275) (i := .i2l) (len := 1) (pc' := 276) (by decide +kernel) rfl ?_
                intro y132
                refine ev_r_toL (pc := 276) (i := .lmul) (len := 1) (pc' := 277) (by decide +kernel) rfl ?_
                intro y133
                refine ev_r_toL (pc := 277) (i := .ladd) (len := 1) (pc' := 278) (by decide +kernel) rfl ?_
                intro y134
                refine ev_r_aload_n (pc := 278) (k := 0) (v := .ref 621) trivial (by decide +kernel) (by exact e127) ?_
                refine ev_r_getC (pc := 279) (y := 19) (ci := 13) (f := 6) (fin := 1) (k' := 625) (by decide +kernel) (by decide +kernel) (by exact ev_ob_621) rfl rfl ?_
                refine ev_r_iload (pc := 282) (k := 4) (v := Int32.ofInt x14) (by decide +kernel) (by exact e130) ?_
                refine ev_r_iald (pc := 284) hx14 (by decide +kernel) (by exact ev_ab_625) ?_
                intro x135 hx135
                refine ev_r_bipush (pc := 285) (k := 8) (by decide +kernel) (by decide +kernel) ?_
                refine ev_r_jn (Q := fun K => ∀ (y137 : Int64), ∀ (y136 : Int64), ∀ (s143 : ev_St) (w138 : List (Nat × Value)), ev_lk w138 0 = some (.ref 621) → ev_lk w138 2 = some (.int (Int32.ofInt x4)) → ev_lk w138 3 = some (.int (Int32.ofInt x5)) → ev_lk w138 4 = some (.int (Int32.ofInt x14)) → ev_w none (ev_Mof 268) d 297 w138 [.long y137, .long y136] s143 (K y137 y136 s143) ev_eU ev_PU) ?_ ?_
                · intro y137 y136 s143 w138 e139 e140 e141 e142
                  refine ev_r_toL (pc := 297) (i := .ladd) (len := 1) (pc' := 298) (by decide +kernel) rfl ?_
                  intro y144
                  exact hK298 y144 s143 _ (by exact e139) (by exact e140) (by exact e141) (by exact e142)
                · intro K297 hK297
                  refine ev_r_icmp (pc := 287) (q := .ne) (o := 9) (t := 296) (c := x135 ≠ 8) (by decide +kernel) (ev_k_ne hx135 (by decide)) (by decide +kernel) ?_ ?_
                  · intro c145
                    refine ev_r_lconst (pc := 296) (c := 0) (by decide +kernel) ?_
                    exact hK297 ((Int64.ofNat ((0 : Fin 2) : Nat))) y134 s131 _ (by exact e127) (by exact e128) (by exact e129) (by exact e130)
                  · intro c145
                    refine ev_r_ldc2 (pc := 290) (y := 511) (k := 2) (by decide +kernel) (by decide +kernel) ?_
                    refine ev_r_goto (pc := 293) (o := 4) (t := 297) (by decide +kernel) (by decide +kernel) ?_
                    exact hK297 ((2)) y134 s131 _ (by exact e127) (by exact e128) (by exact e129) (by exact e130)
              · intro K275 hK275
                refine ev_r_if (pc := 264) (q := .le) (o := 10) (t := 274) (c := x18 ≤ 0) (by decide +kernel) (ev_k_le hx18 ev_rng0) (by decide +kernel) ?_ ?_
                · intro c146
                  refine ev_r_iconst (pc := 274) (k := 0) (by decide +kernel) ?_
                  exact hK275 0 (by decide) ((2)) y17 s58 _ (by exact e51) (by exact e52) (by exact e53) (by exact e54)
                · intro c146
                  refine ev_r_iload (pc := 267) (k := 10) (v := Int32.ofInt x18) (by decide +kernel) (by exact e56) ?_
                  refine ev_r_iconst (pc := 269) (k := 1) (by decide +kernel) ?_
                  refine ev_r_isub (pc := 270) (by decide +kernel) ?_
                  intro x147 hx147
                  refine ev_r_goto (pc := 271) (o := 4) (t := 275) (by decide +kernel) (by decide +kernel) ?_
                  exact hK275 x147 hx147 ((2)) y17 s58 _ (by exact e51) (by exact e52) (by exact e53) (by exact e54)
            · intro c122
              refine ev_r_lconst (pc := 253) (c := 1) (by decide +kernel) ?_
              refine ev_r_goto (pc := 254) (o := 44) (t := 298) (by decide +kernel) (by decide +kernel) ?_
              exact hK298 ((Int64.ofNat ((1 : Fin 2) : Nat))) s58 _ (by exact e51) (by exact e52) (by exact e53) (by exact e54)
          · intro c120
            refine ev_r_lload (pc := 236) (k := 8) (v := y17) (by decide +kernel) (by exact e55) ?_
            refine ev_r_goto (pc := 238) (o := 60) (t := 298) (by decide +kernel) (by decide +kernel) ?_
            exact hK298 y17 s58 _ (by exact e51) (by exact e52) (by exact e53) (by exact e54)
      · intro K223 hK223
        refine ev_r_icmp (pc := 187) (q := .ne) (o := 11) (t := 198) (c := x46 ≠ 18) (by decide +kernel) (ev_k_ne hx46 (by decide)) (by decide +kernel) ?_ ?_
        · intro c148
          refine ev_r_aload_n (pc := 198) (k := 0) (v := .ref 621) trivial (by decide +kernel) (by exact (ev_l1 e37 (by decide) (by decide))) ?_
          refine ev_r_getC (pc := 199) (y := 19) (ci := 13) (f := 6) (fin := 1) (k' := 625) (by decide +kernel) (by decide +kernel) (by exact ev_ob_621) rfl rfl ?_
          refine ev_r_iload (pc := 202) (k := 4) (v := Int32.ofInt x14) (by decide +kernel) (by exact (ev_l1 e40 (by decide) (by decide))) ?_
          refine ev_r_iald (pc := 204) hx14 (by decide +kernel) (by exact ev_ab_625) ?_
          intro x149 hx149
          refine ev_r_if (pc := 205) (q := .ne) (o := 7) (t := 212) (c := x149 ≠ 0) (by decide +kernel) (ev_k_ne hx149 ev_rng0) (by decide +kernel) ?_ ?_
          · intro c150
            refine ev_r_iload (pc := 212) (k := 11) (v := Int32.ofInt x35) (by decide +kernel) (by exact ev_lk_st1_self) ?_
            refine ev_r_if (pc := 214) (q := .eq) (o := 8) (t := 222) (c := x35 = 0) (by decide +kernel) (ev_k_eq hx35 ev_rng0) (by decide +kernel) ?_ ?_
            · intro c151
              refine ev_r_iconst (pc := 222) (k := 0) (by decide +kernel) ?_
              exact hK223 0 (by decide) x14 hx14 640 ev_ab_640 s45 _ (by exact (ev_l1 e37 (by decide) (by decide))) (by exact (ev_l1 e38 (by decide) (by decide))) (by exact (ev_l1 e39 (by decide) (by decide))) (by exact (ev_l1 e40 (by decide) (by decide))) (by exact (ev_l1 e43 (by decide) (by decide))) (by exact (ev_lk_st1 e44 (by decide) rfl))
            · intro c151
              refine ev_r_iload (pc := 217) (k := 5) (v := Int32.ofInt x15) (by decide +kernel) (by exact (ev_l1 e41 (by decide) (by decide))) ?_
              refine ev_r_goto (pc := 219) (o := 4) (t := 223) (by decide +kernel) (by decide +kernel) ?_
              exact hK223 x15 hx15 x14 hx14 640 ev_ab_640 s45 _ (by exact (ev_l1 e37 (by decide) (by decide))) (by exact (ev_l1 e38 (by decide) (by decide))) (by exact (ev_l1 e39 (by decide) (by decide))) (by exact (ev_l1 e40 (by decide) (by decide))) (by exact (ev_l1 e43 (by decide) (by decide))) (by exact (ev_lk_st1 e44 (by decide) rfl))
          · intro c150
            refine ev_r_iconst (pc := 208) (k := 1) (by decide +kernel) ?_
            refine ev_r_goto (pc := 209) (o := 14) (t := 223) (by decide +kernel) (by decide +kernel) ?_
            exact hK223 1 (by decide) x14 hx14 640 ev_ab_640 s45 _ (by exact (ev_l1 e37 (by decide) (by decide))) (by exact (ev_l1 e38 (by decide) (by decide))) (by exact (ev_l1 e39 (by decide) (by decide))) (by exact (ev_l1 e40 (by decide) (by decide))) (by exact (ev_l1 e43 (by decide) (by decide))) (by exact (ev_lk_st1 e44 (by decide) rfl))
        · intro c148
          refine ev_r_lload (pc := 190) (k := 6) (v := y16) (by decide +kernel) (by exact (ev_l1 e42 (by decide) (by decide))) ?_
          refine ev_r_stat (pc := 192) (y := 507) (kind := 2) (mi := 266) (na := 1) (as := [.long y16]) (rest := [.int (Int32.ofInt x14), .ref 640]) (encc := ev_oI) (Q := ev_rng) (fun x S1 h => jt_266 d (by omega) Q y16  s45 x S1 h) (Or.inl rfl) (by decide +kernel) (by decide +kernel) (by decide +kernel) (by decide +kernel) rfl (by (try simp only [ev_sum, ev_nv_cat]); first | done | rfl) ?_
          intro x153 s152 hx153
          show ev_w _ _ _ _ _ [.int (Int32.ofInt x153), .int (Int32.ofInt x14), .ref 640] _ _ _ _
          refine ev_r_goto (pc := 195) (o := 28) (t := 223) (by decide +kernel) (by decide +kernel) ?_
          exact hK223 x153 hx153 x14 hx14 640 ev_ab_640 s152 _ (by exact (ev_l1 e37 (by decide) (by decide))) (by exact (ev_l1 e38 (by decide) (by decide))) (by exact (ev_l1 e39 (by decide) (by decide))) (by exact (ev_l1 e40 (by decide) (by decide))) (by exact (ev_l1 e43 (by decide) (by decide))) (by exact (ev_lk_st1 e44 (by decide) rfl))
    · intro K170 hK170
      refine ev_r_jn (Q := fun K => ∀ (s163 : ev_St) (w154 : List (Nat × Value)), ev_lk w154 0 = some (.ref 621) → ev_lk w154 2 = some (.int (Int32.ofInt x4)) → ev_lk w154 3 = some (.int (Int32.ofInt x5)) → ev_lk w154 4 = some (.int (Int32.ofInt x14)) → ev_lk w154 5 = some (.int (Int32.ofInt x15)) → ev_lk w154 6 = some (.long y16) → ev_lk w154 8 = some (.long y17) → ev_lk w154 10 = some (.int (Int32.ofInt x18)) → ev_w none (ev_Mof 268) d 165 w154 [] s163 (K  s163) ev_eU ev_PU) ?_ ?_
      · intro  s163 w154 e155 e156 e157 e158 e159 e160 e161 e162
        refine ev_r_iconst (pc := 165) (k := 1) (by decide +kernel) ?_
        refine ev_r_goto (pc := 166) (o := 4) (t := 170) (by decide +kernel) (by decide +kernel) ?_
        exact hK170 1 (by decide) s163 _ (by exact e155) (by exact e156) (by exact e157) (by exact e158) (by exact e159) (by exact e160) (by exact e161) (by exact e162)
      · intro K165 hK165
        refine ev_r_if (pc := 144) (q := .ne) (o := 21) (t := 165) (c := x34 ≠ 0) (by decide +kernel) (ev_k_ne hx34 ev_rng0) (by decide +kernel) ?_ ?_
        · intro c164
          exact hK165  s33 _ (by exact e21) (by exact e22) (by exact e23) (by exact e24) (by exact e25) (by exact e26) (by exact e27) (by exact e28)
        · intro c164
          refine ev_r_aload_n (pc := 147) (k := 0) (v := .ref 621) trivial (by decide +kernel) (by exact e21) ?_
          refine ev_r_getC (pc := 148) (y := 19) (ci := 13) (f := 6) (fin := 1) (k' := 625) (by decide +kernel) (by decide +kernel) (by exact ev_ob_621) rfl rfl ?_
          refine ev_r_iload (pc := 151) (k := 4) (v := Int32.ofInt x14) (by decide +kernel) (by exact e24) ?_
          refine ev_r_iald (pc := 153) hx14 (by decide +kernel) (by exact ev_ab_625) ?_
          intro x165 hx165
          refine ev_r_bipush (pc := 154) (k := 13) (by decide +kernel) (by decide +kernel) ?_
          refine ev_r_jn (Q := fun K => ∀ (s175 : ev_St) (w166 : List (Nat × Value)), ev_lk w166 0 = some (.ref 621) → ev_lk w166 2 = some (.int (Int32.ofInt x4)) → ev_lk w166 3 = some (.int (Int32.ofInt x5)) → ev_lk w166 4 = some (.int (Int32.ofInt x14)) → ev_lk w166 5 = some (.int (Int32.ofInt x15)) → ev_lk w166 6 = some (.long y16) → ev_lk w166 8 = some (.long y17) → ev_lk w166 10 = some (.int (Int32.ofInt x18)) → ev_w none (ev_Mof 268) d 169 w166 [] s175 (K  s175) ev_eU ev_PU) ?_ ?_
          · intro  s175 w166 e167 e168 e169 e170 e171 e172 e173 e174
            refine ev_r_iconst (pc := 169) (k := 0) (by decide +kernel) ?_
            exact hK170 0 (by decide) s175 _ (by exact e167) (by exact e168) (by exact e169) (by exact e170) (by exact e171) (by exact e172) (by exact e173) (by exact e174)
          · intro K169 hK169
            refine ev_r_icmp (pc := 156) (q := .ne) (o := 13) (t := 169) (c := x165 ≠ 13) (by decide +kernel) (ev_k_ne hx165 (by decide)) (by decide +kernel) ?_ ?_
            · intro c176
              exact hK169  s33 _ (by exact e21) (by exact e22) (by exact e23) (by exact e24) (by exact e25) (by exact e26) (by exact e27) (by exact e28)
            · intro c176
              refine ev_r_iload (pc := 159) (k := 10) (v := Int32.ofInt x18) (by decide +kernel) (by exact e28) ?_
              refine ev_r_iconst (pc := 161) (k := 1) (by decide +kernel) ?_
              refine ev_r_icmp (pc := 162) (q := .le) (o := 7) (t := 169) (c := x18 ≤ 1) (by decide +kernel) (ev_k_le hx18 (by decide)) (by decide +kernel) ?_ ?_
              · intro c177
                exact hK169  s33 _ (by exact e21) (by exact e22) (by exact e23) (by exact e24) (by exact e25) (by exact e26) (by exact e27) (by exact e28)
              · intro c177
                exact hK165  s33 _ (by exact e21) (by exact e22) (by exact e23) (by exact e24) (by exact e25) (by exact e26) (by exact e27) (by exact e28)
  · intro c31
    refine ev_r_iload (pc := 51) (k := 5) (v := Int32.ofInt x15) (by decide +kernel) (by exact e25) ?_
    refine ev_r_iconst (pc := 53) (k := -1) (by decide +kernel) ?_
    refine ev_r_jn (Q := fun K => ∀ (x178 : Int) (hx178 : ev_rng x178), ∀ (s188 : ev_St) (w179 : List (Nat × Value)), ev_lk w179 0 = some (.ref 621) → ev_lk w179 2 = some (.int (Int32.ofInt x4)) → ev_lk w179 3 = some (.int (Int32.ofInt x5)) → ev_lk w179 4 = some (.int (Int32.ofInt x14)) → ev_lk w179 6 = some (.long y16) → ev_lk w179 8 = some (.long y17) → ev_lk w179 10 = some (.int (Int32.ofInt x18)) → ev_lk w179 11 = some (.int (Int32.ofInt x19)) → ev_w none (ev_Mof 268) d 85 w179 [.int (Int32.ofInt x178)] s188 (K x178 s188) ev_eU ev_PU) ?_ ?_
    · intro x178 hx178 s188 w179 e180 e181 e182 e183 e184 e185 e186 e187
      refine ev_r_istore (pc := 85) (k := 5) (by decide +kernel) (by decide +kernel) rfl ?_
      refine ev_r_lload (pc := 87) (k := 6) (v := y16) (by decide +kernel) (by exact (ev_l1 e184 (by decide) (by decide))) ?_
      refine ev_r_aload_n (pc := 89) (k := 0) (v := .ref 621) trivial (by decide +kernel) (by exact (ev_l1 e180 (by decide) (by decide))) ?_
      refine ev_r_getC (pc := 90) (y := 68) (ci := 13) (f := 22) (fin := 1) (k' := 641) (by decide +kernel) (by decide +kernel) (by exact ev_ob_621) rfl rfl ?_
      refine ev_r_iload_n (pc := 93) (k := 2) (v := Int32.ofInt x4) (by decide +kernel) (by exact (ev_l1 e181 (by decide) (by decide))) ?_
      refine ev_r_iload (pc := 94) (k := 11) (v := Int32.ofInt x19) (by decide +kernel) (by exact (ev_l1 e187 (by decide) (by decide))) ?_
      refine ev_r_iadd (pc := 96) (by decide +kernel) ?_
      intro x189 hx189
      refine ev_r_iald (pc := 97) hx189 (by decide +kernel) (by exact ev_ab_641) ?_
      intro x190 hx190
      refine ev_r_toL (pc := 98) (i := .i2l) (len := 1) (pc' := 99) (by decide +kernel) rfl ?_
      intro y191
      refine ev_r_toL (pc := 99) (i := .ladd) (len := 1) (pc' := 100) (by decide +kernel) rfl ?_
      intro y192
      refine ev_r_lstore (pc := 100) (k := 6) (by decide +kernel) (by decide +kernel) rfl ?_
      refine ev_r_lload (pc := 102) (k := 8) (v := y17) (by decide +kernel) (by exact (ev_l2 (ev_l1 e185 (by decide) (by decide)) (by decide) (by decide) (Or.inl (by decide)))) ?_
      refine ev_r_aload_n (pc := 104) (k := 0) (v := .ref 621) trivial (by decide +kernel) (by exact (ev_l2 (ev_l1 e180 (by decide) (by decide)) (by decide) (by decide) (Or.inl (by decide)))) ?_
      refine ev_r_getC (pc := 105) (y := 74) (ci := 13) (f := 24) (fin := 1) (k' := 643) (by decide +kernel) (by decide +kernel) (by exact ev_ob_621) rfl rfl ?_
      refine ev_r_iload_n (pc := 108) (k := 2) (v := Int32.ofInt x4) (by decide +kernel) (by exact (ev_l2 (ev_l1 e181 (by decide) (by decide)) (by decide) (by decide) (Or.inl (by decide)))) ?_
      refine ev_r_iload (pc := 109) (k := 11) (v := Int32.ofInt x19) (by decide +kernel) (by exact (ev_l2 (ev_l1 e187 (by decide) (by decide)) (by decide) (by decide) (Or.inl (by decide)))) ?_
      refine ev_r_iadd (pc := 111) (by decide +kernel) ?_
      intro x193 hx193
      refine ev_r_iald (pc := 112) hx193 (by decide +kernel) (by exact ev_ab_643) ?_
      intro x194 hx194
      refine ev_r_toL (pc := 113) (i := .i2l) (len := 1) (pc' := 114) (by decide +kernel) rfl ?_
      intro y195
      refine ev_r_toL (pc := 114) (i := .ladd) (len := 1) (pc' := 115) (by decide +kernel) rfl ?_
      intro y196
      refine ev_r_lstore (pc := 115) (k := 8) (by decide +kernel) (by decide +kernel) rfl ?_
      refine ev_r_iinc (pc := 117) (k := 10) (c := 1) (x := x18) (by decide +kernel) (by decide +kernel) (by exact (ev_l2 (ev_l2 (ev_l1 e186 (by decide) (by decide)) (by decide) (by decide) (Or.inl (by decide))) (by decide) (by decide) (Or.inl (by decide)))) (fun _ => rfl) ?_
      intro x197 hx197
      refine ev_r_aload_n (pc := 120) (k := 0) (v := .ref 621) trivial (by decide +kernel) (by exact (ev_l1 (ev_l2 (ev_l2 (ev_l1 e180 (by decide) (by decide)) (by decide) (by decide) (Or.inl (by decide))) (by decide) (by decide) (Or.inl (by decide))) (by decide) (by decide))) ?_
      refine ev_r_getC (pc := 121) (y := 25) (ci := 13) (f := 8) (fin := 1) (k' := 627) (by decide +kernel) (by decide +kernel) (by exact ev_ob_621) rfl rfl ?_
      refine ev_r_iload_n (pc := 124) (k := 2) (v := Int32.ofInt x4) (by decide +kernel) (by exact (ev_l1 (ev_l2 (ev_l2 (ev_l1 e181 (by decide) (by decide)) (by decide) (by decide) (Or.inl (by decide))) (by decide) (by decide) (Or.inl (by decide))) (by decide) (by decide))) ?_
      refine ev_r_iload (pc := 125) (k := 11) (v := Int32.ofInt x19) (by decide +kernel) (by exact (ev_l1 (ev_l2 (ev_l2 (ev_l1 e187 (by decide) (by decide)) (by decide) (by decide) (Or.inl (by decide))) (by decide) (by decide) (Or.inl (by decide))) (by decide) (by decide))) ?_
      refine ev_r_iadd (pc := 127) (by decide +kernel) ?_
      intro x198 hx198
      refine ev_r_iald (pc := 128) hx198 (by decide +kernel) (by exact ev_ab_627) ?_
      intro x199 hx199
      refine ev_r_istore (pc := 129) (k := 11) (by decide +kernel) (by decide +kernel) rfl ?_
      refine ev_r_goto (pc := 131) (o := (-86)) (t := 45) (by decide +kernel) (by decide +kernel) ?_
      exact hK45 x14 hx14 x178 hx178 y192 y196 x197 hx197 x199 hx199 s188 _ (by exact (ev_l1 (ev_l1 (ev_l2 (ev_l2 (ev_l1 e180 (by decide) (by decide)) (by decide) (by decide) (Or.inl (by decide))) (by decide) (by decide) (Or.inl (by decide))) (by decide) (by decide)) (by decide) (by decide))) (by exact (ev_l1 (ev_l1 (ev_l2 (ev_l2 (ev_l1 e181 (by decide) (by decide)) (by decide) (by decide) (Or.inl (by decide))) (by decide) (by decide) (Or.inl (by decide))) (by decide) (by decide)) (by decide) (by decide))) (by exact (ev_l1 (ev_l1 (ev_l2 (ev_l2 (ev_l1 e182 (by decide) (by decide)) (by decide) (by decide) (Or.inl (by decide))) (by decide) (by decide) (Or.inl (by decide))) (by decide) (by decide)) (by decide) (by decide))) (by exact (ev_l1 (ev_l1 (ev_l2 (ev_l2 (ev_lk_st1 e183 (by decide) rfl) (by decide) (by decide) (Or.inl (by decide))) (by decide) (by decide) (Or.inl (by decide))) (by decide) (by decide)) (by decide) (by decide))) (by exact (ev_l1 (ev_l1 (ev_l2 (ev_l2 ev_lk_st1_self (by decide) (by decide) (Or.inr rfl)) (by decide) (by decide) (Or.inl (by decide))) (by decide) (by decide)) (by decide) (by decide))) (by exact (ev_l1 (ev_l1 (ev_l2 ev_l2s (by decide) (by decide) (Or.inl (by decide))) (by decide) (by decide)) (by decide) (by decide))) (by exact (ev_l1 (ev_l1 ev_l2s (by decide) (by decide)) (by decide) (by decide))) (by exact (ev_lk_st1 ev_lk_st1_self (by decide) rfl)) (by exact ev_lk_st1_self)
    · intro K85 hK85
      refine ev_r_jn (Q := fun K => ∀ (s209 : ev_St) (w200 : List (Nat × Value)), ev_lk w200 0 = some (.ref 621) → ev_lk w200 2 = some (.int (Int32.ofInt x4)) → ev_lk w200 3 = some (.int (Int32.ofInt x5)) → ev_lk w200 4 = some (.int (Int32.ofInt x14)) → ev_lk w200 6 = some (.long y16) → ev_lk w200 8 = some (.long y17) → ev_lk w200 10 = some (.int (Int32.ofInt x18)) → ev_lk w200 11 = some (.int (Int32.ofInt x19)) → ev_w none (ev_Mof 268) d 71 w200 [] s209 (K  s209) ev_eU ev_PU) ?_ ?_
      · intro  s209 w200 e201 e202 e203 e204 e205 e206 e207 e208
        refine ev_r_aload_n (pc := 71) (k := 0) (v := .ref 621) trivial (by decide +kernel) (by exact e201) ?_
        refine ev_r_getC (pc := 72) (y := 65) (ci := 13) (f := 21) (fin := 1) (k' := 640) (by decide +kernel) (by decide +kernel) (by exact ev_ob_621) rfl rfl ?_
        refine ev_r_iload_n (pc := 75) (k := 2) (v := Int32.ofInt x4) (by decide +kernel) (by exact e202) ?_
        refine ev_r_iload (pc := 76) (k := 11) (v := Int32.ofInt x19) (by decide +kernel) (by exact e208) ?_
        refine ev_r_iadd (pc := 78) (by decide +kernel) ?_
        intro x210 hx210
        refine ev_r_iald (pc := 79) hx210 (by decide +kernel) (by exact ev_ab_640) ?_
        intro x211 hx211
        refine ev_r_goto (pc := 80) (o := 5) (t := 85) (by decide +kernel) (by decide +kernel) ?_
        exact hK85 x211 hx211 s209 _ (by exact e201) (by exact e202) (by exact e203) (by exact e204) (by exact e205) (by exact e206) (by exact e207) (by exact e208)
      · intro K71 hK71
        refine ev_r_icmp (pc := 54) (q := .eq) (o := 17) (t := 71) (c := x15 = (-1)) (by decide +kernel) (ev_k_eq hx15 (by decide)) (by decide +kernel) ?_ ?_
        · intro c212
          exact hK71  s30 _ (by exact e21) (by exact e22) (by exact e23) (by exact e24) (by exact e26) (by exact e27) (by exact e28) (by exact e29)
        · intro c212
          refine ev_r_aload_n (pc := 57) (k := 0) (v := .ref 621) trivial (by decide +kernel) (by exact e21) ?_
          refine ev_r_getC (pc := 58) (y := 65) (ci := 13) (f := 21) (fin := 1) (k' := 640) (by decide +kernel) (by decide +kernel) (by exact ev_ob_621) rfl rfl ?_
          refine ev_r_iload_n (pc := 61) (k := 2) (v := Int32.ofInt x4) (by decide +kernel) (by exact e22) ?_
          refine ev_r_iload (pc := 62) (k := 11) (v := Int32.ofInt x19) (by decide +kernel) (by exact e29) ?_
          refine ev_r_iadd (pc := 64) (by decide +kernel) ?_
          intro x213 hx213
          refine ev_r_iald (pc := 65) hx213 (by decide +kernel) (by exact ev_ab_640) ?_
          intro x214 hx214
          refine ev_r_iload (pc := 66) (k := 5) (v := Int32.ofInt x15) (by decide +kernel) (by exact e25) ?_
          refine ev_r_icmp (pc := 68) (q := .ge) (o := 15) (t := 83) (c := x15 ≤ x214) (by decide +kernel) (ev_k_ge hx214 hx15) (by decide +kernel) ?_ ?_
          · intro c215
            refine ev_r_iload (pc := 83) (k := 5) (v := Int32.ofInt x15) (by decide +kernel) (by exact e25) ?_
            exact hK85 x15 hx15 s30 _ (by exact e21) (by exact e22) (by exact e23) (by exact e24) (by exact e26) (by exact e27) (by exact e28) (by exact e29)
          · intro c215
            exact hK71  s30 _ (by exact e21) (by exact e22) (by exact e23) (by exact e24) (by exact e26) (by exact e27) (by exact e28) (by exact e29)
theorem jlt_268_45 (d : Nat) (hd : 2 ≤ d + 1) (Q : Nat) (x4 : Int) (x5 : Int) (hx4 : ev_rng x4) (hx5 : ev_rng x5) (K15 : Int → Int → ev_St → Option ((Unit) × ev_St)) (hK15 : ∀ (x4 : Int) (hx4 : ev_rng x4), ∀ (x5 : Int) (hx5 : ev_rng x5), ∀ (s10 : ev_St) (w6 : List (Nat × Value)), ev_lk w6 0 = some (.ref 621) → ev_lk w6 2 = some (.int (Int32.ofInt x4)) → ev_lk w6 3 = some (.int (Int32.ofInt x5)) → ev_w none (ev_Mof 268) d 15 w6 [] s10 (K15 x4 x5 s10) ev_eU ev_PU) : ∀ q : Nat, ∀ (x14 : Int) (hx14 : ev_rng x14), ∀ (x15 : Int) (hx15 : ev_rng x15), ∀ (y16 : Int64), ∀ (y17 : Int64), ∀ (x18 : Int) (hx18 : ev_rng x18), ∀ (x19 : Int) (hx19 : ev_rng x19), ∀ (s30 : ev_St) (w20 : List (Nat × Value)), ev_lk w20 0 = some (.ref 621) → ev_lk w20 2 = some (.int (Int32.ofInt x4)) → ev_lk w20 3 = some (.int (Int32.ofInt x5)) → ev_lk w20 4 = some (.int (Int32.ofInt x14)) → ev_lk w20 5 = some (.int (Int32.ofInt x15)) → ev_lk w20 6 = some (.long y16) → ev_lk w20 8 = some (.long y17) → ev_lk w20 10 = some (.int (Int32.ofInt x18)) → ev_lk w20 11 = some (.int (Int32.ofInt x19)) → ev_w none (ev_Mof 268) d 45 w20 [] s30 (jl_268_45 Q x4 x5 K15 q x14 x15 y16 y17 x18 x19 s30) ev_eU ev_PU := by
  intro q
  induction q with
  | zero =>
    intro x14 hx14 x15 hx15 y16 y17 x18 hx18 x19 hx19 s30 w20 e21 e22 e23 e24 e25 e26 e27 e28 e29
    exact ev_w_none
  | succ q ih => exact jbt_268_45 d hd Q x4 x5 hx4 hx5 K15 hK15 _ ih
def jb_268_15 (Q : Nat)   (K15 : Int → Int → ev_St → Option ((Unit) × ev_St)) (x4 : Int) (x5 : Int) (s10 : ev_St) : Option ((Unit) × ev_St) := if x5 < 0 then (some ((), s10)) else (ev_ck (x4 + x5) fun x12 => ev_if ((0 : Int) ≤ x12 ∧ x12 < (ev_aln 626 : Int)) (ev_b (s10.1 626 (Int.toNat x12)) fun x13 => jl_268_45 Q x4 x5 K15 Q x12 ((-1)) ((Int64.ofNat ((0 : Fin 2) : Nat))) ((Int64.ofNat ((0 : Fin 2) : Nat))) 0 x13 s10))
def jl_268_15 (Q : Nat)   : Nat → Int → Int → ev_St → Option ((Unit) × ev_St)
  | 0 => fun _ _ _ => none
  | q + 1 => jb_268_15 Q   (jl_268_15 Q   q)
theorem jbt_268_15 (d : Nat) (hd : 2 ≤ d + 1) (Q : Nat)     (K15 : Int → Int → ev_St → Option ((Unit) × ev_St)) (hK15 : ∀ (x4 : Int) (hx4 : ev_rng x4), ∀ (x5 : Int) (hx5 : ev_rng x5), ∀ (s10 : ev_St) (w6 : List (Nat × Value)), ev_lk w6 0 = some (.ref 621) → ev_lk w6 2 = some (.int (Int32.ofInt x4)) → ev_lk w6 3 = some (.int (Int32.ofInt x5)) → ev_w none (ev_Mof 268) d 15 w6 [] s10 (K15 x4 x5 s10) ev_eU ev_PU) : ∀ (x4 : Int) (hx4 : ev_rng x4), ∀ (x5 : Int) (hx5 : ev_rng x5), ∀ (s10 : ev_St) (w6 : List (Nat × Value)), ev_lk w6 0 = some (.ref 621) → ev_lk w6 2 = some (.int (Int32.ofInt x4)) → ev_lk w6 3 = some (.int (Int32.ofInt x5)) → ev_w none (ev_Mof 268) d 15 w6 [] s10 (jb_268_15 Q   K15 x4 x5 s10) ev_eU ev_PU := by
  intro x4 hx4 x5 hx5 s10 w6 e7 e8 e9
  unfold jb_268_15
  refine ev_r_iload_n (pc := 15) (k := 3) (v := Int32.ofInt x5) (by decide +kernel) (by exact e9) ?_
  refine ev_r_if (pc := 16) (q := .lt) (o := 428) (t := 444) (c := x5 < 0) (by decide +kernel) (ev_k_lt hx5 ev_rng0) (by decide +kernel) ?_ ?_
  · intro c11
    exact ev_r_return (pc := 444) (x := ()) trivial (by decide +kernel) (by decide +kernel) rfl
  · intro c11
    refine ev_r_iload_n (pc := 19) (k := 2) (v := Int32.ofInt x4) (by decide +kernel) (by exact e8) ?_
    refine ev_r_iload_n (pc := 20) (k := 3) (v := Int32.ofInt x5) (by decide +kernel) (by exact e9) ?_
    refine ev_r_iadd (pc := 21) (by decide +kernel) ?_
    intro x12 hx12
    refine ev_r_istore (pc := 22) (k := 4) (by decide +kernel) (by decide +kernel) rfl ?_
    refine ev_r_iconst (pc := 24) (k := -1) (by decide +kernel) ?_
    refine ev_r_istore (pc := 25) (k := 5) (by decide +kernel) (by decide +kernel) rfl ?_
    refine ev_r_lconst (pc := 27) (c := 0) (by decide +kernel) ?_
    refine ev_r_lstore (pc := 28) (k := 6) (by decide +kernel) (by decide +kernel) rfl ?_
    refine ev_r_lconst (pc := 30) (c := 0) (by decide +kernel) ?_
    refine ev_r_lstore (pc := 31) (k := 8) (by decide +kernel) (by decide +kernel) rfl ?_
    refine ev_r_iconst (pc := 33) (k := 0) (by decide +kernel) ?_
    refine ev_r_istore (pc := 34) (k := 10) (by decide +kernel) (by decide +kernel) rfl ?_
    refine ev_r_aload_n (pc := 36) (k := 0) (v := .ref 621) trivial (by decide +kernel) (by exact (ev_l1 (ev_l2 (ev_l2 (ev_l1 (ev_l1 e7 (by decide) (by decide)) (by decide) (by decide)) (by decide) (by decide) (Or.inl (by decide))) (by decide) (by decide) (Or.inl (by decide))) (by decide) (by decide))) ?_
    refine ev_r_getC (pc := 37) (y := 22) (ci := 13) (f := 7) (fin := 1) (k' := 626) (by decide +kernel) (by decide +kernel) (by exact ev_ob_621) rfl rfl ?_
    refine ev_r_iload (pc := 40) (k := 4) (v := Int32.ofInt x12) (by decide +kernel) (by exact (ev_l1 (ev_l2 (ev_l2 (ev_lk_st1 ev_lk_st1_self (by decide) rfl) (by decide) (by decide) (Or.inl (by decide))) (by decide) (by decide) (Or.inl (by decide))) (by decide) (by decide))) ?_
    refine ev_r_iald (pc := 42) hx12 (by decide +kernel) (by exact ev_ab_626) ?_
    intro x13 hx13
    refine ev_r_istore (pc := 43) (k := 11) (by decide +kernel) (by decide +kernel) rfl ?_
    exact jlt_268_45 d hd Q x4 x5 hx4 hx5 K15 hK15 Q x12 hx12 ((-1)) (by decide) ((Int64.ofNat ((0 : Fin 2) : Nat))) ((Int64.ofNat ((0 : Fin 2) : Nat))) 0 (by decide) x13 hx13 s10 _ (by exact (ev_l1 (ev_l1 (ev_l2 (ev_l2 (ev_l1 (ev_l1 e7 (by decide) (by decide)) (by decide) (by decide)) (by decide) (by decide) (Or.inl (by decide))) (by decide) (by decide) (Or.inl (by decide))) (by decide) (by decide)) (by decide) (by decide))) (by exact (ev_l1 (ev_l1 (ev_l2 (ev_l2 (ev_l1 (ev_l1 e8 (by decide) (by decide)) (by decide) (by decide)) (by decide) (by decide) (Or.inl (by decide))) (by decide) (by decide) (Or.inl (by decide))) (by decide) (by decide)) (by decide) (by decide))) (by exact (ev_l1 (ev_l1 (ev_l2 (ev_l2 (ev_l1 (ev_lk_st1 e9 (by decide) rfl) (by decide) (by decide)) (by decide) (by decide) (Or.inl (by decide))) (by decide) (by decide) (Or.inl (by decide))) (by decide) (by decide)) (by decide) (by decide))) (by exact (ev_l1 (ev_l1 (ev_l2 (ev_l2 (ev_lk_st1 ev_lk_st1_self (by decide) rfl) (by decide) (by decide) (Or.inl (by decide))) (by decide) (by decide) (Or.inl (by decide))) (by decide) (by decide)) (by decide) (by decide))) (by exact (ev_l1 (ev_l1 (ev_l2 (ev_l2 ev_lk_st1_self (by decide) (by decide) (Or.inr rfl)) (by decide) (by decide) (Or.inl (by decide))) (by decide) (by decide)) (by decide) (by decide))) (by exact (ev_l1 (ev_l1 (ev_l2 ev_l2s (by decide) (by decide) (Or.inl (by decide))) (by decide) (by decide)) (by decide) (by decide))) (by exact (ev_l1 (ev_l1 ev_l2s (by decide) (by decide)) (by decide) (by decide))) (by exact (ev_lk_st1 ev_lk_st1_self (by decide) rfl)) (by exact ev_lk_st1_self)
theorem jlt_268_15 (d : Nat) (hd : 2 ≤ d + 1) (Q : Nat)     : ∀ q : Nat, ∀ (x4 : Int) (hx4 : ev_rng x4), ∀ (x5 : Int) (hx5 : ev_rng x5), ∀ (s10 : ev_St) (w6 : List (Nat × Value)), ev_lk w6 0 = some (.ref 621) → ev_lk w6 2 = some (.int (Int32.ofInt x4)) → ev_lk w6 3 = some (.int (Int32.ofInt x5)) → ev_w none (ev_Mof 268) d 15 w6 [] s10 (jl_268_15 Q   q x4 x5 s10) ev_eU ev_PU := by
  intro q
  induction q with
  | zero =>
    intro x4 hx4 x5 hx5 s10 w6 e7 e8 e9
    exact ev_w_none
  | succ q ih => exact jbt_268_15 d hd Q     _ ih
/-- MendBenchModel.facts(I)V -/
def jm_268 (Q : Nat) (a0 : Int) (S : ev_St) : Option ((Unit) × ev_St) := ev_ck (320 * a0) fun x1 => ev_if ((0 : Int) ≤ a0 ∧ a0 < (ev_aln 635 : Int)) (ev_b (S.1 635 (Int.toNat a0)) fun x2 => ev_ck (x2 - 1) fun x3 => jl_268_15 Q   Q x1 x3 S)
theorem jt_268 (d : Nat) (hd : 2 ≤ d) (Q : Nat) (a0 : Int) (ha0 : ev_rng a0) (S : ev_St) (x : Unit) (S' : ev_St) (hJ : jm_268 Q a0 S = some (x, S')) : ev_Ref d 268 [.ref 621, .int (Int32.ofInt a0)] S (ev_eU x) S' (ev_PU x) := by
  obtain ⟨d, rfl⟩ : ∃ e, d = e + 1 := ⟨d - 1, by omega⟩
  refine ev_ref_of (P := ev_PU) (lv := [(0, .ref 621), (1, .int (Int32.ofInt a0))]) (by decide +kernel) (by (try simp only [ev_sum, ev_nv_cat]); first | done | rfl) (by (try simp only [lv_args, ev_nv_cat]); first | done | rfl) ?_ x S' hJ
  unfold jm_268
  refine ev_r_sipush (pc := 0) (k := 320) (by decide +kernel) (by decide +kernel) ?_
  refine ev_r_iload_n (pc := 3) (k := 1) (v := Int32.ofInt a0) (by decide +kernel) (by rfl) ?_
  refine ev_r_imul (pc := 4) (by decide +kernel) ?_
  intro x1 hx1
  refine ev_r_istore_n (pc := 5) (k := 2) (by decide +kernel) (by decide +kernel) rfl ?_
  refine ev_r_aload_n (pc := 6) (k := 0) (v := .ref 621) trivial (by decide +kernel) (by exact (ev_l1 (by rfl) (by decide) (by decide))) ?_
  refine ev_r_getC (pc := 7) (y := 50) (ci := 13) (f := 16) (fin := 1) (k' := 635) (by decide +kernel) (by decide +kernel) (by exact ev_ob_621) rfl rfl ?_
  refine ev_r_iload_n (pc := 10) (k := 1) (v := Int32.ofInt a0) (by decide +kernel) (by exact (ev_lk_st1 (by rfl) (by decide) rfl)) ?_
  refine ev_r_iald (pc := 11) ha0 (by decide +kernel) (by exact ev_ab_635) ?_
  intro x2 hx2
  refine ev_r_iconst (pc := 12) (k := 1) (by decide +kernel) ?_
  refine ev_r_isub (pc := 13) (by decide +kernel) ?_
  intro x3 hx3
  refine ev_r_istore_n (pc := 14) (k := 3) (by decide +kernel) (by decide +kernel) rfl ?_
  exact jlt_268_15 d hd Q     Q x1 hx1 x3 hx3 S _ (by exact (ev_l1 (ev_l1 (by rfl) (by decide) (by decide)) (by decide) (by decide))) (by exact (ev_lk_st1 ev_lk_st1_self (by decide) rfl)) (by exact ev_lk_st1_self)
def jb_269_31 (Q : Nat) (a0 : Int)  (K31 : Int → Int → Int → ev_St → Option ((Int) × ev_St)) (x9 : Int) (x10 : Int) (x11 : Int) (s18 : ev_St) : Option ((Int) × ev_St) := ev_ck (320 * a0) fun x19 => ev_if ((0 : Int) ≤ a0 ∧ a0 < (ev_aln 635 : Int)) (ev_b (s18.1 635 (Int.toNat a0)) fun x20 => ev_ck (x19 + x20) fun x21 => if x21 ≤ x11 then (if x9 ≠ 0 then (if x10 = 0 then (some (3, s18)) else (some (1, s18))) else (some (0, s18))) else (ev_if ((0 : Int) ≤ x11 ∧ x11 < (ev_aln 625 : Int)) (ev_b (s18.1 625 (Int.toNat x11)) fun x25 => ev_jn (fun (x26 : Int) (s33 : ev_St) => ev_jn (fun (x34 : Int) (s40 : ev_St) => ev_jn (fun (x41 : Int) (x42 : Int) (s48 : ev_St) => ev_ck (x11 + 1) fun x49 => K31 x41 x42 x49 s48) fun K186 => ev_jn (fun (x50 : Int) (s56 : ev_St) => K186 x50 1 s56) fun K181 => if x10 ≠ 0 then (K181 x34 s40) else (ev_if ((0 : Int) ≤ x11 ∧ x11 < (ev_aln 625 : Int)) (ev_b (s40.1 625 (Int.toNat x11)) fun x58 => ev_bd (jm_222 Q x58 1 6 s40) fun x60 s59 => if x60 = 0 then (K186 x34 0 s59) else (K181 x34 s59)))) fun K160 => ev_jn (fun  (s67 : ev_St) => K160 0 s67) fun K159 => if x9 = 0 then (K159  s33) else (if x26 = 0 then (K159  s33) else (ev_if ((0 : Int) ≤ x11 ∧ x11 < (ev_aln 630 : Int)) (ev_b (s33.1 630 (Int.toNat x11)) fun x70 => if x70 = 2 then (K159  s33) else (ev_if ((0 : Int) ≤ x11 ∧ x11 < (ev_aln 630 : Int)) (ev_b (s33.1 630 (Int.toNat x11)) fun x72 => ev_jn (fun  (s78 : ev_St) => K160 1 s78) fun K155 => if x72 = (-1) then (K155  s33) else (ev_if ((0 : Int) ≤ x11 ∧ x11 < (ev_aln 632 : Int)) (ev_b (s33.1 632 (Int.toNat x11)) fun x80 => if x80 ≠ (-1) then (K155  s33) else (ev_if ((0 : Int) ≤ x11 ∧ x11 < (ev_aln 640 : Int)) (ev_b (s33.1 640 (Int.toNat x11)) fun x82 => if x82 ≤ 0 then (K159  s33) else (K155  s33))))))))))) fun K101 => ev_jn (fun  (s90 : ev_St) => K101 1 s90) fun K96 => if x25 < 7 then (K96  s18) else (ev_if ((0 : Int) ≤ x11 ∧ x11 < (ev_aln 625 : Int)) (ev_b (s18.1 625 (Int.toNat x11)) fun x92 => if x92 = 8 then (K96  s18) else (ev_if ((0 : Int) ≤ x11 ∧ x11 < (ev_aln 625 : Int)) (ev_b (s18.1 625 (Int.toNat x11)) fun x94 => if x94 = 9 then (K96  s18) else (ev_if ((0 : Int) ≤ x11 ∧ x11 < (ev_aln 625 : Int)) (ev_b (s18.1 625 (Int.toNat x11)) fun x96 => if x96 ≠ 18 then (K101 0 s18) else (K96  s18))))))))))
def jl_269_31 (Q : Nat) (a0 : Int)  : Nat → Int → Int → Int → ev_St → Option ((Int) × ev_St)
  | 0 => fun _ _ _ _ => none
  | q + 1 => jb_269_31 Q a0  (jl_269_31 Q a0  q)
theorem jbt_269_31 (d : Nat) (hd : 2 ≤ d + 1) (Q : Nat) (a0 : Int) (ha0 : ev_rng a0)   (K31 : Int → Int → Int → ev_St → Option ((Int) × ev_St)) (hK31 : ∀ (x9 : Int) (hx9 : ev_rng x9), ∀ (x10 : Int) (hx10 : ev_rng x10), ∀ (x11 : Int) (hx11 : ev_rng x11), ∀ (s18 : ev_St) (w12 : List (Nat × Value)), ev_lk w12 0 = some (.ref 621) → ev_lk w12 1 = some (.int (Int32.ofInt a0)) → ev_lk w12 2 = some (.int (Int32.ofInt x9)) → ev_lk w12 3 = some (.int (Int32.ofInt x10)) → ev_lk w12 4 = some (.int (Int32.ofInt x11)) → ev_w none (ev_Mof 269) d 31 w12 [] s18 (K31 x9 x10 x11 s18) ev_eI ev_rng) : ∀ (x9 : Int) (hx9 : ev_rng x9), ∀ (x10 : Int) (hx10 : ev_rng x10), ∀ (x11 : Int) (hx11 : ev_rng x11), ∀ (s18 : ev_St) (w12 : List (Nat × Value)), ev_lk w12 0 = some (.ref 621) → ev_lk w12 1 = some (.int (Int32.ofInt a0)) → ev_lk w12 2 = some (.int (Int32.ofInt x9)) → ev_lk w12 3 = some (.int (Int32.ofInt x10)) → ev_lk w12 4 = some (.int (Int32.ofInt x11)) → ev_w none (ev_Mof 269) d 31 w12 [] s18 (jb_269_31 Q a0  K31 x9 x10 x11 s18) ev_eI ev_rng := by
  intro x9 hx9 x10 hx10 x11 hx11 s18 w12 e13 e14 e15 e16 e17
  unfold jb_269_31
  refine ev_r_iload (pc := 31) (k := 4) (v := Int32.ofInt x11) (by decide +kernel) (by exact e17) ?_
  refine ev_r_sipush (pc := 33) (k := 320) (by decide +kernel) (by decide +kernel) ?_
  refine ev_r_iload_n (pc := 36) (k := 1) (v := Int32.ofInt a0) (by decide +kernel) (by exact e14) ?_
  refine ev_r_imul (pc := 37) (by decide +kernel) ?_
  intro x19 hx19
  refine ev_r_aload_n (pc := 38) (k := 0) (v := .ref 621) trivial (by decide +kernel) (by exact e13) ?_
  refine ev_r_getC (pc := 39) (y := 50) (ci := 13) (f := 16) (fin := 1) (k' := 635) (by decide +kernel) (by decide +kernel) (by exact ev_ob_621) rfl rfl ?_
  refine ev_r_iload_n (pc := 42) (k := 1) (v := Int32.ofInt a0) (by decide +kernel) (by exact e14) ?_
  refine ev_r_iald (pc := 43) ha0 (by decide +kernel) (by exact ev_ab_635) ?_
  intro x20 hx20
  refine ev_r_iadd (pc := 44) (by decide +kernel) ?_
  intro x21 hx21
  refine ev_r_icmp (pc := 45) (q := .ge) (o := 148) (t := 193) (c := x21 ≤ x11) (by decide +kernel) (ev_k_ge hx11 hx21) (by decide +kernel) ?_ ?_
  · intro c22
    refine ev_r_iload_n (pc := 193) (k := 2) (v := Int32.ofInt x9) (by decide +kernel) (by exact e15) ?_
    refine ev_r_if (pc := 194) (q := .ne) (o := 7) (t := 201) (c := x9 ≠ 0) (by decide +kernel) (ev_k_ne hx9 ev_rng0) (by decide +kernel) ?_ ?_
    · intro c23
      refine ev_r_iload_n (pc := 201) (k := 3) (v := Int32.ofInt x10) (by decide +kernel) (by exact e16) ?_
      refine ev_r_if (pc := 202) (q := .eq) (o := 7) (t := 209) (c := x10 = 0) (by decide +kernel) (ev_k_eq hx10 ev_rng0) (by decide +kernel) ?_ ?_
      · intro c24
        refine ev_r_iconst (pc := 209) (k := 3) (by decide +kernel) ?_
        exact ev_r_ireturn (pc := 210) (x := 3) (v := Int32.ofInt 3) (ty := .int) (by decide) (by decide +kernel) (by decide +kernel) rfl rfl
      · intro c24
        refine ev_r_iconst (pc := 205) (k := 1) (by decide +kernel) ?_
        refine ev_r_goto (pc := 206) (o := 4) (t := 210) (by decide +kernel) (by decide +kernel) ?_
        exact ev_r_ireturn (pc := 210) (x := 1) (v := Int32.ofInt 1) (ty := .int) (by decide) (by decide +kernel) (by decide +kernel) rfl rfl
    · intro c23
      refine ev_r_iconst (pc := 197) (k := 0) (by decide +kernel) ?_
      refine ev_r_goto (pc := 198) (o := 12) (t := 210) (by decide +kernel) (by decide +kernel) ?_
      exact ev_r_ireturn (pc := 210) (x := 0) (v := Int32.ofInt 0) (ty := .int) (by decide) (by decide +kernel) (by decide +kernel) rfl rfl
  · intro c22
    refine ev_r_aload_n (pc := 48) (k := 0) (v := .ref 621) trivial (by decide +kernel) (by exact e13) ?_
    refine ev_r_getC (pc := 49) (y := 19) (ci := 13) (f := 6) (fin := 1) (k' := 625) (by decide +kernel) (by decide +kernel) (by exact ev_ob_621) rfl rfl ?_
    refine ev_r_iload (pc := 52) (k := 4) (v := Int32.ofInt x11) (by decide +kernel) (by exact e17) ?_
    refine ev_r_iald (pc := 54) hx11 (by decide +kernel) (by exact ev_ab_625) ?_
    intro x25 hx25
    refine ev_r_bipush (pc := 55) (k := 7) (by decide +kernel) (by decide +kernel) ?_
    refine ev_r_jn (Q := fun K => ∀ (x26 : Int) (hx26 : ev_rng x26), ∀ (s33 : ev_St) (w27 : List (Nat × Value)), ev_lk w27 0 = some (.ref 621) → ev_lk w27 1 = some (.int (Int32.ofInt a0)) → ev_lk w27 2 = some (.int (Int32.ofInt x9)) → ev_lk w27 3 = some (.int (Int32.ofInt x10)) → ev_lk w27 4 = some (.int (Int32.ofInt x11)) → ev_w none (ev_Mof 269) d 101 w27 [.int (Int32.ofInt x26)] s33 (K x26 s33) ev_eI ev_rng) ?_ ?_
    · intro x26 hx26 s33 w27 e28 e29 e30 e31 e32
      refine ev_r_istore (pc := 101) (k := 5) (by decide +kernel) (by decide +kernel) rfl ?_
      refine ev_r_iload_n (pc := 103) (k := 2) (v := Int32.ofInt x9) (by decide +kernel) (by exact (ev_l1 e30 (by decide) (by decide))) ?_
      refine ev_r_jn (Q := fun K => ∀ (x34 : Int) (hx34 : ev_rng x34), ∀ (s40 : ev_St) (w35 : List (Nat × Value)), ev_lk w35 0 = some (.ref 621) → ev_lk w35 1 = some (.int (Int32.ofInt a0)) → ev_lk w35 3 = some (.int (Int32.ofInt x10)) → ev_lk w35 4 = some (.int (Int32.ofInt x11)) → ev_w none (ev_Mof 269) d 160 w35 [.int (Int32.ofInt x34)] s40 (K x34 s40) ev_eI ev_rng) ?_ ?_
      · intro x34 hx34 s40 w35 e36 e37 e38 e39
        refine ev_r_istore_n (pc := 160) (k := 2) (by decide +kernel) (by decide +kernel) rfl ?_
        refine ev_r_iload_n (pc := 161) (k := 3) (v := Int32.ofInt x10) (by decide +kernel) (by exact (ev_l1 e38 (by decide) (by decide))) ?_
        refine ev_r_jn (Q := fun K => ∀ (x41 : Int) (hx41 : ev_rng x41), ∀ (x42 : Int) (hx42 : ev_rng x42), ∀ (s48 : ev_St) (w43 : List (Nat × Value)), ev_lk w43 0 = some (.ref 621) → ev_lk w43 1 = some (.int (Int32.ofInt a0)) → ev_lk w43 2 = some (.int (Int32.ofInt x41)) → ev_lk w43 4 = some (.int (Int32.ofInt x11)) → ev_w none (ev_Mof 269) d 186 w43 [.int (Int32.ofInt x42)] s48 (K x41 x42 s48) ev_eI ev_rng) ?_ ?_
        · intro x41 hx41 x42 hx42 s48 w43 e44 e45 e46 e47
          refine ev_r_istore_n (pc := 186) (k := 3) (by decide +kernel) (by decide +kernel) rfl ?_
          refine ev_r_iinc (pc := 187) (k := 4) (c := 1) (x := x11) (by decide +kernel) (by decide +kernel) (by exact (ev_l1 e47 (by decide) (by decide))) (fun _ => rfl) ?_
          intro x49 hx49
          refine ev_r_goto (pc := 190) (o := (-159)) (t := 31) (by decide +kernel) (by decide +kernel) ?_
          exact hK31 x41 hx41 x42 hx42 x49 hx49 s48 _ (by exact (ev_l1 (ev_l1 e44 (by decide) (by decide)) (by decide) (by decide))) (by exact (ev_l1 (ev_l1 e45 (by decide) (by decide)) (by decide) (by decide))) (by exact (ev_l1 (ev_lk_st1 e46 (by decide) rfl) (by decide) (by decide))) (by exact (ev_lk_st1 ev_lk_st1_self (by decide) rfl)) (by exact ev_lk_st1_self)
        · intro K186 hK186
          refine ev_r_jn (Q := fun K => ∀ (x50 : Int) (hx50 : ev_rng x50), ∀ (s56 : ev_St) (w51 : List (Nat × Value)), ev_lk w51 0 = some (.ref 621) → ev_lk w51 1 = some (.int (Int32.ofInt a0)) → ev_lk w51 2 = some (.int (Int32.ofInt x50)) → ev_lk w51 4 = some (.int (Int32.ofInt x11)) → ev_w none (ev_Mof 269) d 181 w51 [] s56 (K x50 s56) ev_eI ev_rng) ?_ ?_
          · intro x50 hx50 s56 w51 e52 e53 e54 e55
            refine ev_r_iconst (pc := 181) (k := 1) (by decide +kernel) ?_
            refine ev_r_goto (pc := 182) (o := 4) (t := 186) (by decide +kernel) (by decide +kernel) ?_
            exact hK186 x50 hx50 1 (by decide) s56 _ (by exact e52) (by exact e53) (by exact e54) (by exact e55)
          · intro K181 hK181
            refine ev_r_if (pc := 162) (q := .ne) (o := 19) (t := 181) (c := x10 ≠ 0) (by decide +kernel) (ev_k_ne hx10 ev_rng0) (by decide +kernel) ?_ ?_
            · intro c57
              exact hK181 x34 hx34 s40 _ (by exact (ev_l1 e36 (by decide) (by decide))) (by exact (ev_lk_st1 e37 (by decide) rfl)) (by exact ev_lk_st1_self) (by exact (ev_l1 e39 (by decide) (by decide)))
            · intro c57
              refine ev_r_aload_n (pc := 165) (k := 0) (v := .ref 621) trivial (by decide +kernel) (by exact (ev_l1 e36 (by decide) (by decide))) ?_
              refine ev_r_getC (pc := 166) (y := 19) (ci := 13) (f := 6) (fin := 1) (k' := 625) (by decide +kernel) (by decide +kernel) (by exact ev_ob_621) rfl rfl ?_
              refine ev_r_iload (pc := 169) (k := 4) (v := Int32.ofInt x11) (by decide +kernel) (by exact (ev_l1 e39 (by decide) (by decide))) ?_
              refine ev_r_iald (pc := 171) hx11 (by decide +kernel) (by exact ev_ab_625) ?_
              intro x58 hx58
              refine ev_r_iconst (pc := 172) (k := 1) (by decide +kernel) ?_
              refine ev_r_bipush (pc := 173) (k := 6) (by decide +kernel) (by decide +kernel) ?_
              refine ev_r_stat (pc := 175) (y := 325) (kind := 2) (mi := 222) (na := 3) (as := [.int (Int32.ofInt x58), .int (Int32.ofInt 1), .int (Int32.ofInt 6)]) (rest := []) (encc := ev_oI) (Q := ev_bl) (fun x S1 h => jt_222 d (by omega) Q x58 1 6 hx58 (by decide) (by decide) s40 x S1 h) (Or.inl rfl) (by decide +kernel) (by decide +kernel) (by decide +kernel) (by decide +kernel) rfl (by (try simp only [ev_sum, ev_nv_cat]); first | done | rfl) ?_
              intro x60 s59 hx60
              replace hx60 := ev_bl_rng hx60
              show ev_w _ _ _ _ _ [.int (Int32.ofInt x60)] _ _ _ _
              refine ev_r_if (pc := 178) (q := .eq) (o := 7) (t := 185) (c := x60 = 0) (by decide +kernel) (ev_k_eq hx60 ev_rng0) (by decide +kernel) ?_ ?_
              · intro c61
                refine ev_r_iconst (pc := 185) (k := 0) (by decide +kernel) ?_
                exact hK186 x34 hx34 0 (by decide) s59 _ (by exact (ev_l1 e36 (by decide) (by decide))) (by exact (ev_lk_st1 e37 (by decide) rfl)) (by exact ev_lk_st1_self) (by exact (ev_l1 e39 (by decide) (by decide)))
              · intro c61
                exact hK181 x34 hx34 s59 _ (by exact (ev_l1 e36 (by decide) (by decide))) (by exact (ev_lk_st1 e37 (by decide) rfl)) (by exact ev_lk_st1_self) (by exact (ev_l1 e39 (by decide) (by decide)))
      · intro K160 hK160
        refine ev_r_jn (Q := fun K => ∀ (s67 : ev_St) (w62 : List (Nat × Value)), ev_lk w62 0 = some (.ref 621) → ev_lk w62 1 = some (.int (Int32.ofInt a0)) → ev_lk w62 3 = some (.int (Int32.ofInt x10)) → ev_lk w62 4 = some (.int (Int32.ofInt x11)) → ev_w none (ev_Mof 269) d 159 w62 [] s67 (K  s67) ev_eI ev_rng) ?_ ?_
        · intro  s67 w62 e63 e64 e65 e66
          refine ev_r_iconst (pc := 159) (k := 0) (by decide +kernel) ?_
          exact hK160 0 (by decide) s67 _ (by exact e63) (by exact e64) (by exact e65) (by exact e66)
        · intro K159 hK159
          refine ev_r_if (pc := 104) (q := .eq) (o := 55) (t := 159) (c := x9 = 0) (by decide +kernel) (ev_k_eq hx9 ev_rng0) (by decide +kernel) ?_ ?_
          · intro c68
            exact hK159  s33 _ (by exact (ev_l1 e28 (by decide) (by decide))) (by exact (ev_l1 e29 (by decide) (by decide))) (by exact (ev_l1 e31 (by decide) (by decide))) (by exact (ev_lk_st1 e32 (by decide) rfl))
          · intro c68
            refine ev_r_iload (pc := 107) (k := 5) (v := Int32.ofInt x26) (by decide +kernel) (by exact ev_lk_st1_self) ?_
            refine ev_r_if (pc := 109) (q := .eq) (o := 50) (t := 159) (c := x26 = 0) (by decide +kernel) (ev_k_eq hx26 ev_rng0) (by decide +kernel) ?_ ?_
            · intro c69
              exact hK159  s33 _ (by exact (ev_l1 e28 (by decide) (by decide))) (by exact (ev_l1 e29 (by decide) (by decide))) (by exact (ev_l1 e31 (by decide) (by decide))) (by exact (ev_lk_st1 e32 (by decide) rfl))
            · intro c69
              refine ev_r_aload_n (pc := 112) (k := 0) (v := .ref 621) trivial (by decide +kernel) (by exact (ev_l1 e28 (by decide) (by decide))) ?_
              refine ev_r_getC (pc := 113) (y := 34) (ci := 13) (f := 11) (fin := 1) (k' := 630) (by decide +kernel) (by decide +kernel) (by exact ev_ob_621) rfl rfl ?_
              refine ev_r_iload (pc := 116) (k := 4) (v := Int32.ofInt x11) (by decide +kernel) (by exact (ev_lk_st1 e32 (by decide) rfl)) ?_
              refine ev_r_iald (pc := 118) hx11 (by decide +kernel) (by exact ev_ab_630) ?_
              intro x70 hx70
              refine ev_r_iconst (pc := 119) (k := 2) (by decide +kernel) ?_
              refine ev_r_icmp (pc := 120) (q := .eq) (o := 39) (t := 159) (c := x70 = 2) (by decide +kernel) (ev_k_eq hx70 (by decide)) (by decide +kernel) ?_ ?_
              · intro c71
                exact hK159  s33 _ (by exact (ev_l1 e28 (by decide) (by decide))) (by exact (ev_l1 e29 (by decide) (by decide))) (by exact (ev_l1 e31 (by decide) (by decide))) (by exact (ev_lk_st1 e32 (by decide) rfl))
              · intro c71
                refine ev_r_aload_n (pc := 123) (k := 0) (v := .ref 621) trivial (by decide +kernel) (by exact (ev_l1 e28 (by decide) (by decide))) ?_
                refine ev_r_getC (pc := 124) (y := 34) (ci := 13) (f := 11) (fin := 1) (k' := 630) (by decide +kernel) (by decide +kernel) (by exact ev_ob_621) rfl rfl ?_
                refine ev_r_iload (pc := 127) (k := 4) (v := Int32.ofInt x11) (by decide +kernel) (by exact (ev_lk_st1 e32 (by decide) rfl)) ?_
                refine ev_r_iald (pc := 129) hx11 (by decide +kernel) (by exact ev_ab_630) ?_
                intro x72 hx72
                refine ev_r_iconst (pc := 130) (k := -1) (by decide +kernel) ?_
                refine ev_r_jn (Q := fun K => ∀ (s78 : ev_St) (w73 : List (Nat × Value)), ev_lk w73 0 = some (.ref 621) → ev_lk w73 1 = some (.int (Int32.ofInt a0)) → ev_lk w73 3 = some (.int (Int32.ofInt x10)) → ev_lk w73 4 = some (.int (Int32.ofInt x11)) → ev_w none (ev_Mof 269) d 155 w73 [] s78 (K  s78) ev_eI ev_rng) ?_ ?_
                · intro  s78 w73 e74 e75 e76 e77
                  refine ev_r_iconst (pc := 155) (k := 1) (by decide +kernel) ?_
                  refine ev_r_goto (pc := 156) (o := 4) (t := 160) (by decide +kernel) (by decide +kernel) ?_
                  exact hK160 1 (by decide) s78 _ (by exact e74) (by exact e75) (by exact e76) (by exact e77)
                · intro K155 hK155
                  refine ev_r_icmp (pc := 131) (q := .eq) (o := 24) (t := 155) (c := x72 = (-1)) (by decide +kernel) (ev_k_eq hx72 (by decide)) (by decide +kernel) ?_ ?_
                  · intro c79
                    exact hK155  s33 _ (by exact (ev_l1 e28 (by decide) (by decide))) (by exact (ev_l1 e29 (by decide) (by decide))) (by exact (ev_l1 e31 (by decide) (by decide))) (by exact (ev_lk_st1 e32 (by decide) rfl))
                  · intro c79
                    refine ev_r_aload_n (pc := 134) (k := 0) (v := .ref 621) trivial (by decide +kernel) (by exact (ev_l1 e28 (by decide) (by decide))) ?_
                    refine ev_r_getC (pc := 135) (y := 40) (ci := 13) (f := 13) (fin := 1) (k' := 632) (by decide +kernel) (by decide +kernel) (by exact ev_ob_621) rfl rfl ?_
                    refine ev_r_iload (pc := 138) (k := 4) (v := Int32.ofInt x11) (by decide +kernel) (by exact (ev_lk_st1 e32 (by decide) rfl)) ?_
                    refine ev_r_iald (pc := 140) hx11 (by decide +kernel) (by exact ev_ab_632) ?_
                    intro x80 hx80
                    refine ev_r_iconst (pc := 141) (k := -1) (by decide +kernel) ?_
                    refine ev_r_icmp (pc := 142) (q := .ne) (o := 13) (t := 155) (c := x80 ≠ (-1)) (by decide +kernel) (ev_k_ne hx80 (by decide)) (by decide +kernel) ?_ ?_
                    · intro c81
                      exact hK155  s33 _ (by exact (ev_l1 e28 (by decide) (by decide))) (by exact (ev_l1 e29 (by decide) (by decide))) (by exact (ev_l1 e31 (by decide) (by decide))) (by exact (ev_lk_st1 e32 (by decide) rfl))
                    · intro c81
                      refine ev_r_aload_n (pc := 145) (k := 0) (v := .ref 621) trivial (by decide +kernel) (by exact (ev_l1 e28 (by decide) (by decide))) ?_
                      refine ev_r_getC (pc := 146) (y := 65) (ci := 13) (f := 21) (fin := 1) (k' := 640) (by decide +kernel) (by decide +kernel) (by exact ev_ob_621) rfl rfl ?_
                      refine ev_r_iload (pc := 149) (k := 4) (v := Int32.ofInt x11) (by decide +kernel) (by exact (ev_lk_st1 e32 (by decide) rfl)) ?_
                      refine ev_r_iald (pc := 151) hx11 (by decide +kernel) (by exact ev_ab_640) ?_
                      intro x82 hx82
                      refine ev_r_if (pc := 152) (q := .le) (o := 7) (t := 159) (c := x82 ≤ 0) (by decide +kernel) (ev_k_le hx82 ev_rng0) (by decide +kernel) ?_ ?_
                      · intro c83
                        exact hK159  s33 _ (by exact (ev_l1 e28 (by decide) (by decide))) (by exact (ev_l1 e29 (by decide) (by decide))) (by exact (ev_l1 e31 (by decide) (by decide))) (by exact (ev_lk_st1 e32 (by decide) rfl))
                      · intro c83
                        exact hK155  s33 _ (by exact (ev_l1 e28 (by decide) (by decide))) (by exact (ev_l1 e29 (by decide) (by decide))) (by exact (ev_l1 e31 (by decide) (by decide))) (by exact (ev_lk_st1 e32 (by decide) rfl))
    · intro K101 hK101
      refine ev_r_jn (Q := fun K => ∀ (s90 : ev_St) (w84 : List (Nat × Value)), ev_lk w84 0 = some (.ref 621) → ev_lk w84 1 = some (.int (Int32.ofInt a0)) → ev_lk w84 2 = some (.int (Int32.ofInt x9)) → ev_lk w84 3 = some (.int (Int32.ofInt x10)) → ev_lk w84 4 = some (.int (Int32.ofInt x11)) → ev_w none (ev_Mof 269) d 96 w84 [] s90 (K  s90) ev_eI ev_rng) ?_ ?_
      · intro  s90 w84 e85 e86 e87 e88 e89
        refine ev_r_iconst (pc := 96) (k := 1) (by decide +kernel) ?_
        refine ev_r_goto (pc := 97) (o := 4) (t := 101) (by decide +kernel) (by decide +kernel) ?_
        exact hK101 1 (by decide) s90 _ (by exact e85) (by exact e86) (by exact e87) (by exact e88) (by exact e89)
      · intro K96 hK96
        refine ev_r_icmp (pc := 57) (q := .lt) (o := 39) (t := 96) (c := x25 < 7) (by decide +kernel) (ev_k_lt hx25 (by decide)) (by decide +kernel) ?_ ?_
        · intro c91
          exact hK96  s18 _ (by exact e13) (by exact e14) (by exact e15) (by exact e16) (by exact e17)
        · intro c91
          refine ev_r_aload_n (pc := 60) (k := 0) (v := .ref 621) trivial (by decide +kernel) (by exact e13) ?_
          refine ev_r_getC (pc := 61) (y := 19) (ci := 13) (f := 6) (fin := 1) (k' := 625) (by decide +kernel) (by decide +kernel) (by exact ev_ob_621) rfl rfl ?_
          refine ev_r_iload (pc := 64) (k := 4) (v := Int32.ofInt x11) (by decide +kernel) (by exact e17) ?_
          refine ev_r_iald (pc := 66) hx11 (by decide +kernel) (by exact ev_ab_625) ?_
          intro x92 hx92
          refine ev_r_bipush (pc := 67) (k := 8) (by decide +kernel) (by decide +kernel) ?_
          refine ev_r_icmp (pc := 69) (q := .eq) (o := 27) (t := 96) (c := x92 = 8) (by decide +kernel) (ev_k_eq hx92 (by decide)) (by decide +kernel) ?_ ?_
          · intro c93
            exact hK96  s18 _ (by exact e13) (by exact e14) (by exact e15) (by exact e16) (by exact e17)
          · intro c93
            refine ev_r_aload_n (pc := 72) (k := 0) (v := .ref 621) trivial (by decide +kernel) (by exact e13) ?_
            refine ev_r_getC (pc := 73) (y := 19) (ci := 13) (f := 6) (fin := 1) (k' := 625) (by decide +kernel) (by decide +kernel) (by exact ev_ob_621) rfl rfl ?_
            refine ev_r_iload (pc := 76) (k := 4) (v := Int32.ofInt x11) (by decide +kernel) (by exact e17) ?_
            refine ev_r_iald (pc := 78) hx11 (by decide +kernel) (by exact ev_ab_625) ?_
            intro x94 hx94
            refine ev_r_bipush (pc := 79) (k := 9) (by decide +kernel) (by decide +kernel) ?_
            refine ev_r_icmp (pc := 81) (q := .eq) (o := 15) (t := 96) (c := x94 = 9) (by decide +kernel) (ev_k_eq hx94 (by decide)) (by decide +kernel) ?_ ?_
            · intro c95
              exact hK96  s18 _ (by exact e13) (by exact e14) (by exact e15) (by exact e16) (by exact e17)
            · intro c95
              refine ev_r_aload_n (pc := 84) (k := 0) (v := .ref 621) trivial (by decide +kernel) (by exact e13) ?_
              refine ev_r_getC (pc := 85) (y := 19) (ci := 13) (f := 6) (fin := 1) (k' := 625) (by decide +kernel) (by decide +kernel) (by exact ev_ob_621) rfl rfl ?_
              refine ev_r_iload (pc := 88) (k := 4) (v := Int32.ofInt x11) (by decide +kernel) (by exact e17) ?_
              refine ev_r_iald (pc := 90) hx11 (by decide +kernel) (by exact ev_ab_625) ?_
              intro x96 hx96
              refine ev_r_bipush (pc := 91) (k := 18) (by decide +kernel) (by decide +kernel) ?_
              refine ev_r_icmp (pc := 93) (q := .ne) (o := 7) (t := 100) (c := x96 ≠ 18) (by decide +kernel) (ev_k_ne hx96 (by decide)) (by decide +kernel) ?_ ?_
              · intro c97
                refine ev_r_iconst (pc := 100) (k := 0) (by decide +kernel) ?_
                exact hK101 0 (by decide) s18 _ (by exact e13) (by exact e14) (by exact e15) (by exact e16) (by exact e17)
              · intro c97
                exact hK96  s18 _ (by exact e13) (by exact e14) (by exact e15) (by exact e16) (by exact e17)
theorem jlt_269_31 (d : Nat) (hd : 2 ≤ d + 1) (Q : Nat) (a0 : Int) (ha0 : ev_rng a0)   : ∀ q : Nat, ∀ (x9 : Int) (hx9 : ev_rng x9), ∀ (x10 : Int) (hx10 : ev_rng x10), ∀ (x11 : Int) (hx11 : ev_rng x11), ∀ (s18 : ev_St) (w12 : List (Nat × Value)), ev_lk w12 0 = some (.ref 621) → ev_lk w12 1 = some (.int (Int32.ofInt a0)) → ev_lk w12 2 = some (.int (Int32.ofInt x9)) → ev_lk w12 3 = some (.int (Int32.ofInt x10)) → ev_lk w12 4 = some (.int (Int32.ofInt x11)) → ev_w none (ev_Mof 269) d 31 w12 [] s18 (jl_269_31 Q a0  q x9 x10 x11 s18) ev_eI ev_rng := by
  intro q
  induction q with
  | zero =>
    intro x9 hx9 x10 hx10 x11 hx11 s18 w12 e13 e14 e15 e16 e17
    exact ev_w_none
  | succ q ih => exact jbt_269_31 d hd Q a0 ha0   _ ih
/-- MendBenchModel.enginesOf(I)I -/
def jm_269 (Q : Nat) (a0 : Int) (S : ev_St) : Option ((Int) × ev_St) := ev_ck (320 * a0) fun x1 => ev_if ((0 : Int) ≤ x1 ∧ x1 < (ev_aln 643 : Int)) (ev_b (S.1 643 (Int.toNat x1)) fun x2 => ev_jn (fun (x3 : Int) (s7 : ev_St) => ev_ck (320 * a0) fun x8 => jl_269_31 Q a0  Q x3 0 x8 s7) fun K21 => if 200 < x2 then (K21 0 S) else (K21 1 S))
theorem jt_269 (d : Nat) (hd : 2 ≤ d) (Q : Nat) (a0 : Int) (ha0 : ev_rng a0) (S : ev_St) (x : Int) (S' : ev_St) (hJ : jm_269 Q a0 S = some (x, S')) : ev_Ref d 269 [.ref 621, .int (Int32.ofInt a0)] S (ev_eI x) S' (ev_rng x) := by
  obtain ⟨d, rfl⟩ : ∃ e, d = e + 1 := ⟨d - 1, by omega⟩
  refine ev_ref_of (P := ev_rng) (lv := [(0, .ref 621), (1, .int (Int32.ofInt a0))]) (by decide +kernel) (by (try simp only [ev_sum, ev_nv_cat]); first | done | rfl) (by (try simp only [lv_args, ev_nv_cat]); first | done | rfl) ?_ x S' hJ
  unfold jm_269
  refine ev_r_aload_n (pc := 0) (k := 0) (v := .ref 621) trivial (by decide +kernel) (by rfl) ?_
  refine ev_r_getC (pc := 1) (y := 74) (ci := 13) (f := 24) (fin := 1) (k' := 643) (by decide +kernel) (by decide +kernel) (by exact ev_ob_621) rfl rfl ?_
  refine ev_r_sipush (pc := 4) (k := 320) (by decide +kernel) (by decide +kernel) ?_
  refine ev_r_iload_n (pc := 7) (k := 1) (v := Int32.ofInt a0) (by decide +kernel) (by rfl) ?_
  refine ev_r_imul (pc := 8) (by decide +kernel) ?_
  intro x1 hx1
  refine ev_r_iald (pc := 9) hx1 (by decide +kernel) (by exact ev_ab_643) ?_
  intro x2 hx2
  refine ev_r_sipush (pc := 10) (k := 200) (by decide +kernel) (by decide +kernel) ?_
  refine ev_r_jn (Q := fun K => ∀ (x3 : Int) (hx3 : ev_rng x3), ∀ (s7 : ev_St) (w4 : List (Nat × Value)), ev_lk w4 0 = some (.ref 621) → ev_lk w4 1 = some (.int (Int32.ofInt a0)) → ev_w none (ev_Mof 269) d 21 w4 [.int (Int32.ofInt x3)] s7 (K x3 s7) ev_eI ev_rng) ?_ ?_
  · intro x3 hx3 s7 w4 e5 e6
    refine ev_r_istore_n (pc := 21) (k := 2) (by decide +kernel) (by decide +kernel) rfl ?_
    refine ev_r_iconst (pc := 22) (k := 0) (by decide +kernel) ?_
    refine ev_r_istore_n (pc := 23) (k := 3) (by decide +kernel) (by decide +kernel) rfl ?_
    refine ev_r_sipush (pc := 24) (k := 320) (by decide +kernel) (by decide +kernel) ?_
    refine ev_r_iload_n (pc := 27) (k := 1) (v := Int32.ofInt a0) (by decide +kernel) (by exact (ev_l1 (ev_lk_st1 e6 (by decide) rfl) (by decide) (by decide))) ?_
    refine ev_r_imul (pc := 28) (by decide +kernel) ?_
    intro x8 hx8
    refine ev_r_istore (pc := 29) (k := 4) (by decide +kernel) (by decide +kernel) rfl ?_
    exact jlt_269_31 d hd Q a0 ha0   Q x3 hx3 0 (by decide) x8 hx8 s7 _ (by exact (ev_l1 (ev_l1 (ev_l1 e5 (by decide) (by decide)) (by decide) (by decide)) (by decide) (by decide))) (by exact (ev_l1 (ev_l1 (ev_lk_st1 e6 (by decide) rfl) (by decide) (by decide)) (by decide) (by decide))) (by exact (ev_l1 (ev_lk_st1 ev_lk_st1_self (by decide) rfl) (by decide) (by decide))) (by exact (ev_lk_st1 ev_lk_st1_self (by decide) rfl)) (by exact ev_lk_st1_self)
  · intro K21 hK21
    refine ev_r_icmp (pc := 13) (q := .gt) (o := 7) (t := 20) (c := 200 < x2) (by decide +kernel) (ev_k_gt hx2 (by decide)) (by decide +kernel) ?_ ?_
    · intro c98
      refine ev_r_iconst (pc := 20) (k := 0) (by decide +kernel) ?_
      exact hK21 0 (by decide) S _ (by rfl) (by rfl)
    · intro c98
      refine ev_r_iconst (pc := 16) (k := 1) (by decide +kernel) ?_
      refine ev_r_goto (pc := 17) (o := 4) (t := 21) (by decide +kernel) (by decide +kernel) ?_
      exact hK21 1 (by decide) S _ (by rfl) (by rfl)
/-- MendBenchModel.asks1(III)V -/
def jm_310 (Q : Nat) (a0 : Int) (a1 : Int) (a2 : Int) (S : ev_St) : Option ((Unit) × ev_St) := ev_b (S.1 621 59) fun x1 => ev_if ((0 : Int) ≤ x1 ∧ x1 < (ev_aln 666 : Int)) (ev_b (ev_pI S 666 (Int.toNat x1) a0) fun s2 => ev_b (s2.1 621 59) fun x3 => ev_if ((0 : Int) ≤ x3 ∧ x3 < (ev_aln 667 : Int)) (ev_b (ev_pI s2 667 (Int.toNat x3) a1) fun s4 => ev_b (s4.1 621 59) fun x5 => ev_if ((0 : Int) ≤ x5 ∧ x5 < (ev_aln 668 : Int)) (ev_b (ev_pI s4 668 (Int.toNat x5) a2) fun s6 => ev_b (s6.1 621 59) fun x7 => ev_ck (x7 + 1) fun x8 => ev_b (ev_pI s6 621 59 x8) fun s9 => some ((), s9))))
theorem jt_310 (d : Nat) (hd : 1 ≤ d) (Q : Nat) (a0 : Int) (a1 : Int) (a2 : Int) (ha0 : ev_rng a0) (ha1 : ev_rng a1) (ha2 : ev_rng a2) (S : ev_St) (x : Unit) (S' : ev_St) (hJ : jm_310 Q a0 a1 a2 S = some (x, S')) : ev_Ref d 310 [.ref 621, .int (Int32.ofInt a0), .int (Int32.ofInt a1), .int (Int32.ofInt a2)] S (ev_eU x) S' (ev_PU x) := by
  obtain ⟨d, rfl⟩ : ∃ e, d = e + 1 := ⟨d - 1, by omega⟩
  refine ev_ref_of (P := ev_PU) (lv := [(0, .ref 621), (1, .int (Int32.ofInt a0)), (2, .int (Int32.ofInt a1)), (3, .int (Int32.ofInt a2))]) (by decide +kernel) (by (try simp only [ev_sum, ev_nv_cat]); first | done | rfl) (by (try simp only [lv_args, ev_nv_cat]); first | done | rfl) ?_ x S' hJ
  unfold jm_310
  refine ev_r_aload_n (pc := 0) (k := 0) (v := .ref 621) trivial (by decide +kernel) (by rfl) ?_
  refine ev_r_getC (pc := 1) (y := 144) (ci := 13) (f := 60) (fin := 1) (k' := 666) (by decide +kernel) (by decide +kernel) (by exact ev_ob_621) rfl rfl ?_
  refine ev_r_aload_n (pc := 4) (k := 0) (v := .ref 621) trivial (by decide +kernel) (by rfl) ?_
  refine ev_r_getI (pc := 5) (y := 676) (ci := 13) (f := 59) (fin := 0) (by decide +kernel) (by decide +kernel) (by exact ev_ob_621) rfl ?_
  intro x1 hx1
  refine ev_r_iload_n (pc := 8) (k := 1) (v := Int32.ofInt a0) (by decide +kernel) (by rfl) ?_
  refine ev_r_iast (pc := 9) ha0 hx1 (by decide +kernel) (by exact ev_ab_666) ?_
  intro s2
  refine ev_r_aload_n (pc := 10) (k := 0) (v := .ref 621) trivial (by decide +kernel) (by rfl) ?_
  refine ev_r_getC (pc := 11) (y := 147) (ci := 13) (f := 61) (fin := 1) (k' := 667) (by decide +kernel) (by decide +kernel) (by exact ev_ob_621) rfl rfl ?_
  refine ev_r_aload_n (pc := 14) (k := 0) (v := .ref 621) trivial (by decide +kernel) (by rfl) ?_
  refine ev_r_getI (pc := 15) (y := 676) (ci := 13) (f := 59) (fin := 0) (by decide +kernel) (by decide +kernel) (by exact ev_ob_621) rfl ?_
  intro x3 hx3
  refine ev_r_iload_n (pc := 18) (k := 2) (v := Int32.ofInt a1) (by decide +kernel) (by rfl) ?_
  refine ev_r_iast (pc := 19) ha1 hx3 (by decide +kernel) (by exact ev_ab_667) ?_
  intro s4
  refine ev_r_aload_n (pc := 20) (k := 0) (v := .ref 621) trivial (by decide +kernel) (by rfl) ?_
  refine ev_r_getC (pc := 21) (y := 150) (ci := 13) (f := 62) (fin := 1) (k' := 668) (by decide +kernel) (by decide +kernel) (by exact ev_ob_621) rfl rfl ?_
  refine ev_r_aload_n (pc := 24) (k := 0) (v := .ref 621) trivial (by decide +kernel) (by rfl) ?_
  refine ev_r_getI (pc := 25) (y := 676) (ci := 13) (f := 59) (fin := 0) (by decide +kernel) (by decide +kernel) (by exact ev_ob_621) rfl ?_
  intro x5 hx5
  refine ev_r_iload_n (pc := 28) (k := 3) (v := Int32.ofInt a2) (by decide +kernel) (by rfl) ?_
  refine ev_r_iast (pc := 29) ha2 hx5 (by decide +kernel) (by exact ev_ab_668) ?_
  intro s6
  refine ev_r_aload_n (pc := 30) (k := 0) (v := .ref 621) trivial (by decide +kernel) (by rfl) ?_
  refine ev_r_dup (pc := 31) rfl (by decide +kernel) ?_
  refine ev_r_getI (pc := 32) (y := 676) (ci := 13) (f := 59) (fin := 0) (by decide +kernel) (by decide +kernel) (by exact ev_ob_621) rfl ?_
  intro x7 hx7
  refine ev_r_iconst (pc := 35) (k := 1) (by decide +kernel) ?_
  refine ev_r_iadd (pc := 36) (by decide +kernel) ?_
  intro x8 hx8
  refine ev_r_putI (pc := 37) (y := 676) (ci := 13) (f := 59) hx8 (by decide +kernel) (by decide +kernel) (by exact ev_ob_621) rfl rfl ?_
  intro s9
  exact ev_r_return (pc := 40) (x := ()) trivial (by decide +kernel) (by decide +kernel) rfl
/-- MendBenchModel.emits(IIII)I -/
def jm_309 (Q : Nat) (a0 : Int) (a1 : Int) (a2 : Int) (a3 : Int) (S : ev_St) : Option ((Int) × ev_St) := ev_ck (210 * a0) fun x1 => ev_b (S.1 621 54) fun x2 => ev_ck (x1 + x2) fun x3 => ev_if ((0 : Int) ≤ x3 ∧ x3 < (ev_aln 662 : Int)) (ev_b (ev_pI S 662 (Int.toNat x3) a1) fun s4 => ev_if ((0 : Int) ≤ x3 ∧ x3 < (ev_aln 663 : Int)) (ev_b (ev_pI s4 663 (Int.toNat x3) a2) fun s5 => ev_if ((0 : Int) ≤ x3 ∧ x3 < (ev_aln 664 : Int)) (ev_b (ev_pI s5 664 (Int.toNat x3) a3) fun s6 => ev_b (s6.1 621 54) fun x7 => ev_ck (x7 + 1) fun x8 => ev_b (ev_pI s6 621 54 x8) fun s9 => ev_b (s9.1 621 54) fun x10 => ev_ck (x10 - 1) fun x11 => some (x11, s9))))
theorem jt_309 (d : Nat) (hd : 1 ≤ d) (Q : Nat) (a0 : Int) (a1 : Int) (a2 : Int) (a3 : Int) (ha0 : ev_rng a0) (ha1 : ev_rng a1) (ha2 : ev_rng a2) (ha3 : ev_rng a3) (S : ev_St) (x : Int) (S' : ev_St) (hJ : jm_309 Q a0 a1 a2 a3 S = some (x, S')) : ev_Ref d 309 [.ref 621, .int (Int32.ofInt a0), .int (Int32.ofInt a1), .int (Int32.ofInt a2), .int (Int32.ofInt a3)] S (ev_eI x) S' (ev_rng x) := by
  obtain ⟨d, rfl⟩ : ∃ e, d = e + 1 := ⟨d - 1, by omega⟩
  refine ev_ref_of (P := ev_rng) (lv := [(0, .ref 621), (1, .int (Int32.ofInt a0)), (2, .int (Int32.ofInt a1)), (3, .int (Int32.ofInt a2)), (4, .int (Int32.ofInt a3))]) (by decide +kernel) (by (try simp only [ev_sum, ev_nv_cat]); first | done | rfl) (by (try simp only [lv_args, ev_nv_cat]); first | done | rfl) ?_ x S' hJ
  unfold jm_309
  refine ev_r_sipush (pc := 0) (k := 210) (by decide +kernel) (by decide +kernel) ?_
  refine ev_r_iload_n (pc := 3) (k := 1) (v := Int32.ofInt a0) (by decide +kernel) (by rfl) ?_
  refine ev_r_imul (pc := 4) (by decide +kernel) ?_
  intro x1 hx1
  refine ev_r_aload_n (pc := 5) (k := 0) (v := .ref 621) trivial (by decide +kernel) (by rfl) ?_
  refine ev_r_getI (pc := 6) (y := 673) (ci := 13) (f := 54) (fin := 0) (by decide +kernel) (by decide +kernel) (by exact ev_ob_621) rfl ?_
  intro x2 hx2
  refine ev_r_iadd (pc := 9) (by decide +kernel) ?_
  intro x3 hx3
  refine ev_r_istore (pc := 10) (k := 5) (by decide +kernel) (by decide +kernel) rfl ?_
  refine ev_r_aload_n (pc := 12) (k := 0) (v := .ref 621) trivial (by decide +kernel) (by exact (ev_l1 (by rfl) (by decide) (by decide))) ?_
  refine ev_r_getC (pc := 13) (y := 132) (ci := 13) (f := 55) (fin := 1) (k' := 662) (by decide +kernel) (by decide +kernel) (by exact ev_ob_621) rfl rfl ?_
  refine ev_r_iload (pc := 16) (k := 5) (v := Int32.ofInt x3) (by decide +kernel) (by exact ev_lk_st1_self) ?_
  refine ev_r_iload_n (pc := 18) (k := 2) (v := Int32.ofInt a1) (by decide +kernel) (by exact (ev_l1 (by rfl) (by decide) (by decide))) ?_
  refine ev_r_iast (pc := 19) ha1 hx3 (by decide +kernel) (by exact ev_ab_662) ?_
  intro s4
  refine ev_r_aload_n (pc := 20) (k := 0) (v := .ref 621) trivial (by decide +kernel) (by exact (ev_l1 (by rfl) (by decide) (by decide))) ?_
  refine ev_r_getC (pc := 21) (y := 135) (ci := 13) (f := 56) (fin := 1) (k' := 663) (by decide +kernel) (by decide +kernel) (by exact ev_ob_621) rfl rfl ?_
  refine ev_r_iload (pc := 24) (k := 5) (v := Int32.ofInt x3) (by decide +kernel) (by exact ev_lk_st1_self) ?_
  refine ev_r_iload_n (pc := 26) (k := 3) (v := Int32.ofInt a2) (by decide +kernel) (by exact (ev_l1 (by rfl) (by decide) (by decide))) ?_
  refine ev_r_iast (pc := 27) ha2 hx3 (by decide +kernel) (by exact ev_ab_663) ?_
  intro s5
  refine ev_r_aload_n (pc := 28) (k := 0) (v := .ref 621) trivial (by decide +kernel) (by exact (ev_l1 (by rfl) (by decide) (by decide))) ?_
  refine ev_r_getC (pc := 29) (y := 138) (ci := 13) (f := 57) (fin := 1) (k' := 664) (by decide +kernel) (by decide +kernel) (by exact ev_ob_621) rfl rfl ?_
  refine ev_r_iload (pc := 32) (k := 5) (v := Int32.ofInt x3) (by decide +kernel) (by exact ev_lk_st1_self) ?_
  refine ev_r_iload (pc := 34) (k := 4) (v := Int32.ofInt a3) (by decide +kernel) (by exact (ev_lk_st1 (by rfl) (by decide) rfl)) ?_
  refine ev_r_iast (pc := 36) ha3 hx3 (by decide +kernel) (by exact ev_ab_664) ?_
  intro s6
  refine ev_r_aload_n (pc := 37) (k := 0) (v := .ref 621) trivial (by decide +kernel) (by exact (ev_l1 (by rfl) (by decide) (by decide))) ?_
  refine ev_r_dup (pc := 38) rfl (by decide +kernel) ?_
  refine ev_r_getI (pc := 39) (y := 673) (ci := 13) (f := 54) (fin := 0) (by decide +kernel) (by decide +kernel) (by exact ev_ob_621) rfl ?_
  intro x7 hx7
  refine ev_r_iconst (pc := 42) (k := 1) (by decide +kernel) ?_
  refine ev_r_iadd (pc := 43) (by decide +kernel) ?_
  intro x8 hx8
  refine ev_r_putI (pc := 44) (y := 673) (ci := 13) (f := 54) hx8 (by decide +kernel) (by decide +kernel) (by exact ev_ob_621) rfl rfl ?_
  intro s9
  refine ev_r_aload_n (pc := 47) (k := 0) (v := .ref 621) trivial (by decide +kernel) (by exact (ev_l1 (by rfl) (by decide) (by decide))) ?_
  refine ev_r_getI (pc := 48) (y := 673) (ci := 13) (f := 54) (fin := 0) (by decide +kernel) (by decide +kernel) (by exact ev_ob_621) rfl ?_
  intro x10 hx10
  refine ev_r_iconst (pc := 51) (k := 1) (by decide +kernel) ?_
  refine ev_r_isub (pc := 52) (by decide +kernel) ?_
  intro x11 hx11
  exact ev_r_ireturn (pc := 53) (x := x11) (v := Int32.ofInt x11) (ty := .int) hx11 (by decide +kernel) (by decide +kernel) rfl rfl
/-- MendBenchModel.copies(III)V -/
def jm_311 (Q : Nat) (a0 : Int) (a1 : Int) (a2 : Int) (S : ev_St) : Option ((Unit) × ev_St) := ev_if ((0 : Int) ≤ a1 ∧ a1 < (ev_aln 631 : Int)) (ev_b (S.1 631 (Int.toNat a1)) fun x1 => if x1 ≤ a2 then (ev_if ((0 : Int) ≤ a1 ∧ a1 < (ev_aln 632 : Int)) (ev_b (S.1 632 (Int.toNat a1)) fun x3 => ev_jn (fun  (s9 : ev_St) => ev_b (s9.1 621 54) fun x10 => ev_ck (x10 + 1) fun x11 => ev_b (s9.1 621 54) fun x12 => ev_ck (x12 + 1) fun x13 => ev_bd (jm_309 Q a0 2 x11 x13 s9) fun x15 s14 => ev_if ((0 : Int) ≤ a1 ∧ a1 < (ev_aln 632 : Int)) (ev_b (s14.1 632 (Int.toNat a1)) fun x16 => ev_jn (fun (x17 : Int) (x18 : Int) (s24 : ev_St) => ev_bd (jm_310 Q x18 a1 x17 s24) fun _ s25 => ev_if ((0 : Int) ≤ a1 ∧ a1 < (ev_aln 632 : Int)) (ev_b (s25.1 632 (Int.toNat a1)) fun x26 => ev_jn (fun  (s30 : ev_St) => ev_bd (jm_310 Q 1 a1 0 s30) fun _ s31 => some ((), s31)) fun K111 => if x26 = (-1) then (K111  s25) else (ev_ck (a2 + 1) fun x33 => ev_bd (jm_310 Q 3 a1 x33 s25) fun _ s34 => K111  s34))) fun K86 => if x16 ≠ (-1) then (K86 x15 6 s14) else (K86 x15 5 s14))) fun K49 => if x3 = (-1) then (K49  S) else (ev_if ((0 : Int) ≤ a1 ∧ a1 < (ev_aln 632 : Int)) (ev_b (S.1 632 (Int.toNat a1)) fun x37 => if x37 ≤ a2 then (some ((), S)) else (K49  S))))) else (ev_ck (a2 + 1) fun x39 => ev_bd (jm_310 Q 3 a1 x39 S) fun _ s40 => ev_bd (jm_310 Q 1 a1 0 s40) fun _ s41 => some ((), s41)))
theorem jt_311 (d : Nat) (hd : 2 ≤ d) (Q : Nat) (a0 : Int) (a1 : Int) (a2 : Int) (ha0 : ev_rng a0) (ha1 : ev_rng a1) (ha2 : ev_rng a2) (S : ev_St) (x : Unit) (S' : ev_St) (hJ : jm_311 Q a0 a1 a2 S = some (x, S')) : ev_Ref d 311 [.ref 621, .int (Int32.ofInt a0), .int (Int32.ofInt a1), .int (Int32.ofInt a2)] S (ev_eU x) S' (ev_PU x) := by
  obtain ⟨d, rfl⟩ : ∃ e, d = e + 1 := ⟨d - 1, by omega⟩
  refine ev_ref_of (P := ev_PU) (lv := [(0, .ref 621), (1, .int (Int32.ofInt a0)), (2, .int (Int32.ofInt a1)), (3, .int (Int32.ofInt a2))]) (by decide +kernel) (by (try simp only [ev_sum, ev_nv_cat]); first | done | rfl) (by (try simp only [lv_args, ev_nv_cat]); first | done | rfl) ?_ x S' hJ
  unfold jm_311
  refine ev_r_iload_n (pc := 0) (k := 3) (v := Int32.ofInt a2) (by decide +kernel) (by rfl) ?_
  refine ev_r_aload_n (pc := 1) (k := 0) (v := .ref 621) trivial (by decide +kernel) (by rfl) ?_
  refine ev_r_getC (pc := 2) (y := 37) (ci := 13) (f := 12) (fin := 1) (k' := 631) (by decide +kernel) (by decide +kernel) (by exact ev_ob_621) rfl rfl ?_
  refine ev_r_iload_n (pc := 5) (k := 2) (v := Int32.ofInt a1) (by decide +kernel) (by rfl) ?_
  refine ev_r_iald (pc := 6) ha1 (by decide +kernel) (by exact ev_ab_631) ?_
  intro x1 hx1
  refine ev_r_icmp (pc := 7) (q := .ge) (o := 22) (t := 29) (c := x1 ≤ a2) (by decide +kernel) (ev_k_ge ha2 hx1) (by decide +kernel) ?_ ?_
  · intro c2
    refine ev_r_aload_n (pc := 29) (k := 0) (v := .ref 621) trivial (by decide +kernel) (by rfl) ?_
    refine ev_r_getC (pc := 30) (y := 40) (ci := 13) (f := 13) (fin := 1) (k' := 632) (by decide +kernel) (by decide +kernel) (by exact ev_ob_621) rfl rfl ?_
    refine ev_r_iload_n (pc := 33) (k := 2) (v := Int32.ofInt a1) (by decide +kernel) (by rfl) ?_
    refine ev_r_iald (pc := 34) ha1 (by decide +kernel) (by exact ev_ab_632) ?_
    intro x3 hx3
    refine ev_r_iconst (pc := 35) (k := -1) (by decide +kernel) ?_
    refine ev_r_jn (Q := fun K => ∀ (s9 : ev_St) (w4 : List (Nat × Value)), ev_lk w4 0 = some (.ref 621) → ev_lk w4 1 = some (.int (Int32.ofInt a0)) → ev_lk w4 2 = some (.int (Int32.ofInt a1)) → ev_lk w4 3 = some (.int (Int32.ofInt a2)) → ev_w none (ev_Mof 311) d 49 w4 [] s9 (K  s9) ev_eU ev_PU) ?_ ?_
    · intro  s9 w4 e5 e6 e7 e8
      refine ev_r_aload_n (pc := 49) (k := 0) (v := .ref 621) trivial (by decide +kernel) (by exact e5) ?_
      refine ev_r_iload_n (pc := 50) (k := 1) (v := Int32.ofInt a0) (by decide +kernel) (by exact e6) ?_
      refine ev_r_iconst (pc := 51) (k := 2) (by decide +kernel) ?_
      refine ev_r_aload_n (pc := 52) (k := 0) (v := .ref 621) trivial (by decide +kernel) (by exact e5) ?_
      refine ev_r_getI (pc := 53) (y := 673) (ci := 13) (f := 54) (fin := 0) (by decide +kernel) (by decide +kernel) (by exact ev_ob_621) rfl ?_
      intro x10 hx10
      refine ev_r_iconst (pc := 56) (k := 1) (by decide +kernel) ?_
      refine ev_r_iadd (pc := 57) (by decide +kernel) ?_
      intro x11 hx11
      refine ev_r_aload_n (pc := 58) (k := 0) (v := .ref 621) trivial (by decide +kernel) (by exact e5) ?_
      refine ev_r_getI (pc := 59) (y := 673) (ci := 13) (f := 54) (fin := 0) (by decide +kernel) (by decide +kernel) (by exact ev_ob_621) rfl ?_
      intro x12 hx12
      refine ev_r_iconst (pc := 62) (k := 1) (by decide +kernel) ?_
      refine ev_r_iadd (pc := 63) (by decide +kernel) ?_
      intro x13 hx13
      refine ev_r_virt (pc := 64) (y := 682) (mi := 309) (na := 4) (k := 621) (as := [.int (Int32.ofInt a0), .int (Int32.ofInt 2), .int (Int32.ofInt x11), .int (Int32.ofInt x13)]) (rest := []) (encc := ev_oI) (Q := ev_rng) (fun x S1 h => jt_309 d (by omega) Q a0 2 x11 x13 ha0 (by decide) hx11 hx13 s9 x S1 h) (by exact ev_ob_621) (by decide +kernel) (by decide +kernel) (by decide +kernel) (by decide +kernel) rfl (by (try simp only [ev_sum, ev_nv_cat]); first | done | rfl) ?_
      intro x15 s14 hx15
      show ev_w _ _ _ _ _ [.int (Int32.ofInt x15)] _ _ _ _
      refine ev_r_istore (pc := 67) (k := 4) (by decide +kernel) (by decide +kernel) rfl ?_
      refine ev_r_aload_n (pc := 69) (k := 0) (v := .ref 621) trivial (by decide +kernel) (by exact (ev_l1 e5 (by decide) (by decide))) ?_
      refine ev_r_aload_n (pc := 70) (k := 0) (v := .ref 621) trivial (by decide +kernel) (by exact (ev_l1 e5 (by decide) (by decide))) ?_
      refine ev_r_getC (pc := 71) (y := 40) (ci := 13) (f := 13) (fin := 1) (k' := 632) (by decide +kernel) (by decide +kernel) (by exact ev_ob_621) rfl rfl ?_
      refine ev_r_iload_n (pc := 74) (k := 2) (v := Int32.ofInt a1) (by decide +kernel) (by exact (ev_l1 e7 (by decide) (by decide))) ?_
      refine ev_r_iald (pc := 75) ha1 (by decide +kernel) (by exact ev_ab_632) ?_
      intro x16 hx16
      refine ev_r_iconst (pc := 76) (k := -1) (by decide +kernel) ?_
      refine ev_r_jn (Q := fun K => ∀ (x17 : Int) (hx17 : ev_rng x17), ∀ (x18 : Int) (hx18 : ev_rng x18), ∀ (s24 : ev_St) (w19 : List (Nat × Value)), ev_lk w19 0 = some (.ref 621) → ev_lk w19 2 = some (.int (Int32.ofInt a1)) → ev_lk w19 3 = some (.int (Int32.ofInt a2)) → ev_lk w19 4 = some (.int (Int32.ofInt x17)) → ev_w none (ev_Mof 311) d 86 w19 [.int (Int32.ofInt x18), .ref 621] s24 (K x17 x18 s24) ev_eU ev_PU) ?_ ?_
      · intro x17 hx17 x18 hx18 s24 w19 e20 e21 e22 e23
        refine ev_r_iload_n (pc := 86) (k := 2) (v := Int32.ofInt a1) (by decide +kernel) (by exact e21) ?_
        refine ev_r_iload (pc := 87) (k := 4) (v := Int32.ofInt x17) (by decide +kernel) (by exact e23) ?_
        refine ev_r_virt (pc := 89) (y := 679) (mi := 310) (na := 3) (k := 621) (as := [.int (Int32.ofInt x18), .int (Int32.ofInt a1), .int (Int32.ofInt x17)]) (rest := []) (encc := ev_oU) (Q := ev_PU) (fun x S1 h => jt_310 d (by omega) Q x18 a1 x17 hx18 ha1 hx17 s24 x S1 h) (by exact ev_ob_621) (by decide +kernel) (by decide +kernel) (by decide +kernel) (by decide +kernel) rfl (by (try simp only [ev_sum, ev_nv_cat]); first | done | rfl) ?_
        intro _ s25 _
        show ev_w _ _ _ _ _ [] _ _ _ _
        refine ev_r_aload_n (pc := 92) (k := 0) (v := .ref 621) trivial (by decide +kernel) (by exact e20) ?_
        refine ev_r_getC (pc := 93) (y := 40) (ci := 13) (f := 13) (fin := 1) (k' := 632) (by decide +kernel) (by decide +kernel) (by exact ev_ob_621) rfl rfl ?_
        refine ev_r_iload_n (pc := 96) (k := 2) (v := Int32.ofInt a1) (by decide +kernel) (by exact e21) ?_
        refine ev_r_iald (pc := 97) ha1 (by decide +kernel) (by exact ev_ab_632) ?_
        intro x26 hx26
        refine ev_r_iconst (pc := 98) (k := -1) (by decide +kernel) ?_
        refine ev_r_jn (Q := fun K => ∀ (s30 : ev_St) (w27 : List (Nat × Value)), ev_lk w27 0 = some (.ref 621) → ev_lk w27 2 = some (.int (Int32.ofInt a1)) → ev_w none (ev_Mof 311) d 111 w27 [] s30 (K  s30) ev_eU ev_PU) ?_ ?_
        · intro  s30 w27 e28 e29
          refine ev_r_aload_n (pc := 111) (k := 0) (v := .ref 621) trivial (by decide +kernel) (by exact e28) ?_
          refine ev_r_iconst (pc := 112) (k := 1) (by decide +kernel) ?_
          refine ev_r_iload_n (pc := 113) (k := 2) (v := Int32.ofInt a1) (by decide +kernel) (by exact e29) ?_
          refine ev_r_iconst (pc := 114) (k := 0) (by decide +kernel) ?_
          refine ev_r_virt (pc := 115) (y := 679) (mi := 310) (na := 3) (k := 621) (as := [.int (Int32.ofInt 1), .int (Int32.ofInt a1), .int (Int32.ofInt 0)]) (rest := []) (encc := ev_oU) (Q := ev_PU) (fun x S1 h => jt_310 d (by omega) Q 1 a1 0 (by decide) ha1 (by decide) s30 x S1 h) (by exact ev_ob_621) (by decide +kernel) (by decide +kernel) (by decide +kernel) (by decide +kernel) rfl (by (try simp only [ev_sum, ev_nv_cat]); first | done | rfl) ?_
          intro _ s31 _
          show ev_w _ _ _ _ _ [] _ _ _ _
          exact ev_r_return (pc := 118) (x := ()) trivial (by decide +kernel) (by decide +kernel) rfl
        · intro K111 hK111
          refine ev_r_icmp (pc := 99) (q := .eq) (o := 12) (t := 111) (c := x26 = (-1)) (by decide +kernel) (ev_k_eq hx26 (by decide)) (by decide +kernel) ?_ ?_
          · intro c32
            exact hK111  s25 _ (by exact e20) (by exact e21)
          · intro c32
            refine ev_r_aload_n (pc := 102) (k := 0) (v := .ref 621) trivial (by decide +kernel) (by exact e20) ?_
            refine ev_r_iconst (pc := 103) (k := 3) (by decide +kernel) ?_
            refine ev_r_iload_n (pc := 104) (k := 2) (v := Int32.ofInt a1) (by decide +kernel) (by exact e21) ?_
            refine ev_r_iload_n (pc := 105) (k := 3) (v := Int32.ofInt a2) (by decide +kernel) (by exact e22) ?_
            refine ev_r_iconst (pc := 106) (k := 1) (by decide +kernel) ?_
            refine ev_r_iadd (pc := 107) (by decide +kernel) ?_
            intro x33 hx33
            refine ev_r_virt (pc := 108) (y := 679) (mi := 310) (na := 3) (k := 621) (as := [.int (Int32.ofInt 3), .int (Int32.ofInt a1), .int (Int32.ofInt x33)]) (rest := []) (encc := ev_oU) (Q := ev_PU) (fun x S1 h => jt_310 d (by omega) Q 3 a1 x33 (by decide) ha1 hx33 s25 x S1 h) (by exact ev_ob_621) (by decide +kernel) (by decide +kernel) (by decide +kernel) (by decide +kernel) rfl (by (try simp only [ev_sum, ev_nv_cat]); first | done | rfl) ?_
            intro _ s34 _
            show ev_w _ _ _ _ _ [] _ _ _ _
            exact hK111  s34 _ (by exact e20) (by exact e21)
      · intro K86 hK86
        refine ev_r_icmp (pc := 77) (q := .ne) (o := 7) (t := 84) (c := x16 ≠ (-1)) (by decide +kernel) (ev_k_ne hx16 (by decide)) (by decide +kernel) ?_ ?_
        · intro c35
          refine ev_r_bipush (pc := 84) (k := 6) (by decide +kernel) (by decide +kernel) ?_
          exact hK86 x15 hx15 6 (by decide) s14 _ (by exact (ev_l1 e5 (by decide) (by decide))) (by exact (ev_l1 e7 (by decide) (by decide))) (by exact (ev_lk_st1 e8 (by decide) rfl)) (by exact ev_lk_st1_self)
        · intro c35
          refine ev_r_iconst (pc := 80) (k := 5) (by decide +kernel) ?_
          refine ev_r_goto (pc := 81) (o := 5) (t := 86) (by decide +kernel) (by decide +kernel) ?_
          exact hK86 x15 hx15 5 (by decide) s14 _ (by exact (ev_l1 e5 (by decide) (by decide))) (by exact (ev_l1 e7 (by decide) (by decide))) (by exact (ev_lk_st1 e8 (by decide) rfl)) (by exact ev_lk_st1_self)
    · intro K49 hK49
      refine ev_r_icmp (pc := 36) (q := .eq) (o := 13) (t := 49) (c := x3 = (-1)) (by decide +kernel) (ev_k_eq hx3 (by decide)) (by decide +kernel) ?_ ?_
      · intro c36
        exact hK49  S _ (by rfl) (by rfl) (by rfl) (by rfl)
      · intro c36
        refine ev_r_iload_n (pc := 39) (k := 3) (v := Int32.ofInt a2) (by decide +kernel) (by rfl) ?_
        refine ev_r_aload_n (pc := 40) (k := 0) (v := .ref 621) trivial (by decide +kernel) (by rfl) ?_
        refine ev_r_getC (pc := 41) (y := 40) (ci := 13) (f := 13) (fin := 1) (k' := 632) (by decide +kernel) (by decide +kernel) (by exact ev_ob_621) rfl rfl ?_
        refine ev_r_iload_n (pc := 44) (k := 2) (v := Int32.ofInt a1) (by decide +kernel) (by rfl) ?_
        refine ev_r_iald (pc := 45) ha1 (by decide +kernel) (by exact ev_ab_632) ?_
        intro x37 hx37
        refine ev_r_icmp (pc := 46) (q := .ge) (o := 72) (t := 118) (c := x37 ≤ a2) (by decide +kernel) (ev_k_ge ha2 hx37) (by decide +kernel) ?_ ?_
        · intro c38
          exact ev_r_return (pc := 118) (x := ()) trivial (by decide +kernel) (by decide +kernel) rfl
        · intro c38
          exact hK49  S _ (by rfl) (by rfl) (by rfl) (by rfl)
  · intro c2
    refine ev_r_aload_n (pc := 10) (k := 0) (v := .ref 621) trivial (by decide +kernel) (by rfl) ?_
    refine ev_r_iconst (pc := 11) (k := 3) (by decide +kernel) ?_
    refine ev_r_iload_n (pc := 12) (k := 2) (v := Int32.ofInt a1) (by decide +kernel) (by rfl) ?_
    refine ev_r_iload_n (pc := 13) (k := 3) (v := Int32.ofInt a2) (by decide +kernel) (by rfl) ?_
    refine ev_r_iconst (pc := 14) (k := 1) (by decide +kernel) ?_
    refine ev_r_iadd (pc := 15) (by decide +kernel) ?_
    intro x39 hx39
    refine ev_r_virt (pc := 16) (y := 679) (mi := 310) (na := 3) (k := 621) (as := [.int (Int32.ofInt 3), .int (Int32.ofInt a1), .int (Int32.ofInt x39)]) (rest := []) (encc := ev_oU) (Q := ev_PU) (fun x S1 h => jt_310 d (by omega) Q 3 a1 x39 (by decide) ha1 hx39 S x S1 h) (by exact ev_ob_621) (by decide +kernel) (by decide +kernel) (by decide +kernel) (by decide +kernel) rfl (by (try simp only [ev_sum, ev_nv_cat]); first | done | rfl) ?_
    intro _ s40 _
    show ev_w _ _ _ _ _ [] _ _ _ _
    refine ev_r_aload_n (pc := 19) (k := 0) (v := .ref 621) trivial (by decide +kernel) (by rfl) ?_
    refine ev_r_iconst (pc := 20) (k := 1) (by decide +kernel) ?_
    refine ev_r_iload_n (pc := 21) (k := 2) (v := Int32.ofInt a1) (by decide +kernel) (by rfl) ?_
    refine ev_r_iconst (pc := 22) (k := 0) (by decide +kernel) ?_
    refine ev_r_virt (pc := 23) (y := 679) (mi := 310) (na := 3) (k := 621) (as := [.int (Int32.ofInt 1), .int (Int32.ofInt a1), .int (Int32.ofInt 0)]) (rest := []) (encc := ev_oU) (Q := ev_PU) (fun x S1 h => jt_310 d (by omega) Q 1 a1 0 (by decide) ha1 (by decide) s40 x S1 h) (by exact ev_ob_621) (by decide +kernel) (by decide +kernel) (by decide +kernel) (by decide +kernel) rfl (by (try simp only [ev_sum, ev_nv_cat]); first | done | rfl) ?_
    intro _ s41 _
    show ev_w _ _ _ _ _ [] _ _ _ _
    refine ev_r_goto (pc := 26) (o := 92) (t := 118) (by decide +kernel) (by decide +kernel) ?_
    exact ev_r_return (pc := 118) (x := ()) trivial (by decide +kernel) (by decide +kernel) rfl
/-- MendBenchModel.patches(III)V -/
def jm_312 (Q : Nat) (a0 : Int) (a1 : Int) (a2 : Int) (S : ev_St) : Option ((Unit) × ev_St) := ev_if ((0 : Int) ≤ a1 ∧ a1 < (ev_aln 630 : Int)) (ev_b (S.1 630 (Int.toNat a1)) fun x1 => if x1 ≠ 1 then (ev_ck (210 * a0) fun x3 => ev_ck (x3 + a2) fun x4 => ev_b (S.1 621 54) fun x5 => ev_if ((0 : Int) ≤ x4 ∧ x4 < (ev_aln 664 : Int)) (ev_b (ev_pI S 664 (Int.toNat x4) x5) fun s6 => some ((), s6))) else (ev_ck (210 * a0) fun x7 => ev_ck (x7 + a2) fun x8 => ev_b (S.1 621 54) fun x9 => ev_if ((0 : Int) ≤ x8 ∧ x8 < (ev_aln 663 : Int)) (ev_b (ev_pI S 663 (Int.toNat x8) x9) fun s10 => some ((), s10))))
theorem jt_312 (d : Nat) (hd : 1 ≤ d) (Q : Nat) (a0 : Int) (a1 : Int) (a2 : Int) (ha0 : ev_rng a0) (ha1 : ev_rng a1) (ha2 : ev_rng a2) (S : ev_St) (x : Unit) (S' : ev_St) (hJ : jm_312 Q a0 a1 a2 S = some (x, S')) : ev_Ref d 312 [.ref 621, .int (Int32.ofInt a0), .int (Int32.ofInt a1), .int (Int32.ofInt a2)] S (ev_eU x) S' (ev_PU x) := by
  obtain ⟨d, rfl⟩ : ∃ e, d = e + 1 := ⟨d - 1, by omega⟩
  refine ev_ref_of (P := ev_PU) (lv := [(0, .ref 621), (1, .int (Int32.ofInt a0)), (2, .int (Int32.ofInt a1)), (3, .int (Int32.ofInt a2))]) (by decide +kernel) (by (try simp only [ev_sum, ev_nv_cat]); first | done | rfl) (by (try simp only [lv_args, ev_nv_cat]); first | done | rfl) ?_ x S' hJ
  unfold jm_312
  refine ev_r_aload_n (pc := 0) (k := 0) (v := .ref 621) trivial (by decide +kernel) (by rfl) ?_
  refine ev_r_getC (pc := 1) (y := 34) (ci := 13) (f := 11) (fin := 1) (k' := 630) (by decide +kernel) (by decide +kernel) (by exact ev_ob_621) rfl rfl ?_
  refine ev_r_iload_n (pc := 4) (k := 2) (v := Int32.ofInt a1) (by decide +kernel) (by rfl) ?_
  refine ev_r_iald (pc := 5) ha1 (by decide +kernel) (by exact ev_ab_630) ?_
  intro x1 hx1
  refine ev_r_iconst (pc := 6) (k := 1) (by decide +kernel) ?_
  refine ev_r_icmp (pc := 7) (q := .ne) (o := 22) (t := 29) (c := x1 ≠ 1) (by decide +kernel) (ev_k_ne hx1 (by decide)) (by decide +kernel) ?_ ?_
  · intro c2
    refine ev_r_aload_n (pc := 29) (k := 0) (v := .ref 621) trivial (by decide +kernel) (by rfl) ?_
    refine ev_r_getC (pc := 30) (y := 138) (ci := 13) (f := 57) (fin := 1) (k' := 664) (by decide +kernel) (by decide +kernel) (by exact ev_ob_621) rfl rfl ?_
    refine ev_r_sipush (pc := 33) (k := 210) (by decide +kernel) (by decide +kernel) ?_
    refine ev_r_iload_n (pc := 36) (k := 1) (v := Int32.ofInt a0) (by decide +kernel) (by rfl) ?_
    refine ev_r_imul (pc := 37) (by decide +kernel) ?_
    intro x3 hx3
    refine ev_r_iload_n (pc := 38) (k := 3) (v := Int32.ofInt a2) (by decide +kernel) (by rfl) ?_
    refine ev_r_iadd (pc := 39) (by decide +kernel) ?_
    intro x4 hx4
    refine ev_r_aload_n (pc := 40) (k := 0) (v := .ref 621) trivial (by decide +kernel) (by rfl) ?_
    refine ev_r_getI (pc := 41) (y := 673) (ci := 13) (f := 54) (fin := 0) (by decide +kernel) (by decide +kernel) (by exact ev_ob_621) rfl ?_
    intro x5 hx5
    refine ev_r_iast (pc := 44) hx5 hx4 (by decide +kernel) (by exact ev_ab_664) ?_
    intro s6
    exact ev_r_return (pc := 45) (x := ()) trivial (by decide +kernel) (by decide +kernel) rfl
  · intro c2
    refine ev_r_aload_n (pc := 10) (k := 0) (v := .ref 621) trivial (by decide +kernel) (by rfl) ?_
    refine ev_r_getC (pc := 11) (y := 135) (ci := 13) (f := 56) (fin := 1) (k' := 663) (by decide +kernel) (by decide +kernel) (by exact ev_ob_621) rfl rfl ?_
    refine ev_r_sipush (pc := 14) (k := 210) (by decide +kernel) (by decide +kernel) ?_
    refine ev_r_iload_n (pc := 17) (k := 1) (v := Int32.ofInt a0) (by decide +kernel) (by rfl) ?_
    refine ev_r_imul (pc := 18) (by decide +kernel) ?_
    intro x7 hx7
    refine ev_r_iload_n (pc := 19) (k := 3) (v := Int32.ofInt a2) (by decide +kernel) (by rfl) ?_
    refine ev_r_iadd (pc := 20) (by decide +kernel) ?_
    intro x8 hx8
    refine ev_r_aload_n (pc := 21) (k := 0) (v := .ref 621) trivial (by decide +kernel) (by rfl) ?_
    refine ev_r_getI (pc := 22) (y := 673) (ci := 13) (f := 54) (fin := 0) (by decide +kernel) (by decide +kernel) (by exact ev_ob_621) rfl ?_
    intro x9 hx9
    refine ev_r_iast (pc := 25) hx9 hx8 (by decide +kernel) (by exact ev_ab_663) ?_
    intro s10
    refine ev_r_goto (pc := 26) (o := 19) (t := 45) (by decide +kernel) (by decide +kernel) ?_
    exact ev_r_return (pc := 45) (x := ()) trivial (by decide +kernel) (by decide +kernel) rfl
def jb_313_23 (Q : Nat) (a0 : Int)  (K23 : Int → ev_St → Option ((Unit) × ev_St)) (x4 : Int) (s9 : ev_St) : Option ((Unit) × ev_St) := ev_b (s9.1 621 59) fun x10 => if x10 ≤ 0 then (ev_bd (jm_309 Q a0 5 0 0 s9) fun x13 s12 => ev_if ((0 : Int) ≤ a0 ∧ a0 < (ev_aln 665 : Int)) (ev_b (ev_pI s12 665 (Int.toNat a0) x13) fun s14 => some ((), s14))) else (ev_b (s9.1 621 59) fun x15 => ev_ck (x15 - 1) fun x16 => ev_b (ev_pI s9 621 59 x16) fun s17 => ev_b (s17.1 621 59) fun x18 => ev_if ((0 : Int) ≤ x18 ∧ x18 < (ev_aln 666 : Int)) (ev_b (s17.1 666 (Int.toNat x18)) fun x19 => ev_b (s17.1 621 59) fun x20 => ev_if ((0 : Int) ≤ x20 ∧ x20 < (ev_aln 667 : Int)) (ev_b (s17.1 667 (Int.toNat x20)) fun x21 => ev_b (s17.1 621 59) fun x22 => ev_if ((0 : Int) ≤ x22 ∧ x22 < (ev_aln 668 : Int)) (ev_b (s17.1 668 (Int.toNat x22)) fun x23 => ev_jn (fun (x24 : Int) (x25 : Int) (s32 : ev_St) => ev_jn (fun  (s37 : ev_St) => K23 x4 s37) fun K558 => if x24 ≠ 11 then (K558  s32) else (ev_if ((0 : Int) ≤ x25 ∧ x25 < (ev_aln 627 : Int)) (ev_b (s32.1 627 (Int.toNat x25)) fun x39 => ev_jn (fun  (s45 : ev_St) => ev_bd (jm_310 Q 0 x25 0 s45) fun _ s46 => K558  s46) fun K550 => if x39 = (-1) then (K550  s32) else (ev_if ((0 : Int) ≤ x25 ∧ x25 < (ev_aln 627 : Int)) (ev_b (s32.1 627 (Int.toNat x25)) fun x48 => ev_ck (x4 + x48) fun x49 => ev_bd (jm_310 Q 11 x49 0 s32) fun _ s50 => K550  s50))))) fun K517 => if x19 ≠ 0 then (ev_jn (fun  (s59 : ev_St) => ev_jn (fun  (s67 : ev_St) => if x19 ≠ 1 then (if x19 ≠ 2 then (if x19 ≠ 3 then (if x19 ≠ 4 then (if x19 ≠ 5 then (if x19 ≠ 6 then (if x19 ≠ 7 then (if x19 ≠ 8 then (if x19 ≠ 9 then (if x19 ≠ 10 then (K517 x19 x21 s67) else (ev_if ((0 : Int) ≤ x21 ∧ x21 < (ev_aln 626 : Int)) (ev_b (s67.1 626 (Int.toNat x21)) fun x78 => if x78 = (-1) then (K517 x19 x21 s67) else (ev_if ((0 : Int) ≤ x21 ∧ x21 < (ev_aln 626 : Int)) (ev_b (s67.1 626 (Int.toNat x21)) fun x80 => ev_ck (x4 + x80) fun x81 => ev_bd (jm_310 Q 11 x81 0 s67) fun _ s82 => K517 x19 x21 s82))))) else (ev_ck (210 * a0) fun x83 => ev_ck (x83 + x23) fun x84 => ev_b (s67.1 621 54) fun x85 => ev_if ((0 : Int) ≤ x84 ∧ x84 < (ev_aln 663 : Int)) (ev_b (ev_pI s67 663 (Int.toNat x84) x85) fun s86 => K517 x19 x21 s86))) else (ev_bd (jm_309 Q a0 4 x23 0 s67) fun x88 s87 => K517 x19 x21 s87)) else (ev_bd (jm_309 Q a0 3 0 0 s67) fun x90 s89 => ev_ck (210 * a0) fun x91 => ev_ck (x91 + x23) fun x92 => ev_b (s89.1 621 54) fun x93 => ev_if ((0 : Int) ≤ x92 ∧ x92 < (ev_aln 664 : Int)) (ev_b (ev_pI s89 664 (Int.toNat x92) x93) fun s94 => ev_bd (jm_310 Q 9 x21 x90 s94) fun _ s95 => ev_if ((0 : Int) ≤ x21 ∧ x21 < (ev_aln 627 : Int)) (ev_b (s95.1 627 (Int.toNat x21)) fun x96 => ev_ck (x4 + x96) fun x97 => ev_bd (jm_310 Q 4 x97 0 s95) fun _ s98 => K517 x19 x21 s98)))) else (ev_bd (jm_312 Q a0 x21 x23 s67) fun _ s99 => K517 x19 x21 s99)) else (ev_bd (jm_309 Q a0 3 x23 0 s67) fun x101 s100 => ev_bd (jm_312 Q a0 x21 x23 s100) fun _ s102 => K517 x19 x21 s102)) else (ev_if ((0 : Int) ≤ x21 ∧ x21 < (ev_aln 627 : Int)) (ev_b (s67.1 627 (Int.toNat x21)) fun x103 => ev_jn (fun (x104 : Int) (s111 : ev_St) => ev_jn (fun  (s118 : ev_St) => ev_bd (jm_310 Q 10 x21 0 s118) fun _ s119 => K517 x19 x21 s119) fun K319 => if x104 = (-1) then (K319  s111) else (ev_bd (jm_310 Q 7 x21 x104 s111) fun _ s121 => K319  s121)) fun K301 => if x103 ≠ (-1) then (ev_b (s67.1 621 54) fun x123 => ev_ck (x123 + 1) fun x124 => ev_bd (jm_309 Q a0 2 x124 0 s67) fun x126 s125 => K301 x126 s125) else (K301 ((-1)) s67)))) else (ev_bd (jm_311 Q a0 x21 x23 s67) fun _ s127 => K517 x19 x21 s127)) else (ev_if ((0 : Int) ≤ x21 ∧ x21 < (ev_aln 626 : Int)) (ev_b (s67.1 626 (Int.toNat x21)) fun x128 => ev_ck (x4 + x128) fun x129 => ev_bd (jm_310 Q 4 x129 0 s67) fun _ s130 => K517 x19 x21 s130))) else (ev_bd (jm_310 Q 2 x21 0 s67) fun _ s131 => K517 x19 x21 s131)) fun K212 => if x19 ≠ 1 then (K212  s59) else (ev_if ((0 : Int) ≤ x21 ∧ x21 < (ev_aln 625 : Int)) (ev_b (s59.1 625 (Int.toNat x21)) fun x133 => if x133 ≠ 8 then (K212  s59) else (ev_if ((0 : Int) ≤ x21 ∧ x21 < (ev_aln 628 : Int)) (ev_b (s59.1 628 (Int.toNat x21)) fun x135 => ev_ck (2 * x135) fun x136 => ev_bd (jm_309 Q a0 4 x136 0 s59) fun x138 s137 => ev_if ((0 : Int) ≤ x21 ∧ x21 < (ev_aln 628 : Int)) (ev_b (s137.1 628 (Int.toNat x21)) fun x139 => ev_ck (2 * x139) fun x140 => ev_ck (x140 + 1) fun x141 => ev_bd (jm_310 Q 8 x21 x141 s137) fun _ s142 => ev_bd (jm_310 Q 2 x21 0 s142) fun _ s143 => K517 x19 x21 s143)))))) fun K147 => if x19 ≠ 1 then (K147  s17) else (ev_if ((0 : Int) ≤ x21 ∧ x21 < (ev_aln 625 : Int)) (ev_b (s17.1 625 (Int.toNat x21)) fun x145 => if 7 ≤ x145 then (K147  s17) else (ev_if ((0 : Int) ≤ x21 ∧ x21 < (ev_aln 625 : Int)) (ev_b (s17.1 625 (Int.toNat x21)) fun x147 => ev_jn (fun (x149 : Int) (x148 : Int) (s156 : ev_St) => ev_bd (jm_309 Q x148 x149 x21 0 s156) fun x158 s157 => K517 x19 x21 s157) fun K136 => if x147 ≠ 0 then (K136 1 a0 s17) else (K136 0 a0 s17)))))) else (ev_if ((0 : Int) ≤ x21 ∧ x21 < (ev_aln 630 : Int)) (ev_b (s17.1 630 (Int.toNat x21)) fun x160 => ev_jn (fun (x161 : Int) (s168 : ev_St) => ev_bd (jm_310 Q x161 x21 0 s168) fun _ s169 => K517 x19 x21 s169) fun K93 => if x160 ≠ (-1) then (K93 3 s17) else (K93 1 s17)))))))
def jl_313_23 (Q : Nat) (a0 : Int)  : Nat → Int → ev_St → Option ((Unit) × ev_St)
  | 0 => fun _ _ => none
  | q + 1 => jb_313_23 Q a0  (jl_313_23 Q a0  q)
theorem jbt_313_23 (d : Nat) (hd : 3 ≤ d + 1) (Q : Nat) (a0 : Int) (ha0 : ev_rng a0)   (K23 : Int → ev_St → Option ((Unit) × ev_St)) (hK23 : ∀ (x4 : Int) (hx4 : ev_rng x4), ∀ (s9 : ev_St) (w5 : List (Nat × Value)), ev_lk w5 0 = some (.ref 621) → ev_lk w5 1 = some (.int (Int32.ofInt a0)) → ev_lk w5 2 = some (.int (Int32.ofInt x4)) → ev_w none (ev_Mof 313) d 23 w5 [] s9 (K23 x4 s9) ev_eU ev_PU) : ∀ (x4 : Int) (hx4 : ev_rng x4), ∀ (s9 : ev_St) (w5 : List (Nat × Value)), ev_lk w5 0 = some (.ref 621) → ev_lk w5 1 = some (.int (Int32.ofInt a0)) → ev_lk w5 2 = some (.int (Int32.ofInt x4)) → ev_w none (ev_Mof 313) d 23 w5 [] s9 (jb_313_23 Q a0  K23 x4 s9) ev_eU ev_PU := by
  intro x4 hx4 s9 w5 e6 e7 e8
  unfold jb_313_23
  refine ev_r_aload_n (pc := 23) (k := 0) (v := .ref 621) trivial (by decide +kernel) (by exact e6) ?_
  refine ev_r_getI (pc := 24) (y := 676) (ci := 13) (f := 59) (fin := 0) (by decide +kernel) (by decide +kernel) (by exact ev_ob_621) rfl ?_
  intro x10 hx10
  refine ev_r_if (pc := 27) (q := .le) (o := 534) (t := 561) (c := x10 ≤ 0) (by decide +kernel) (ev_k_le hx10 ev_rng0) (by decide +kernel) ?_ ?_
  · intro c11
    refine ev_r_aload_n (pc := 561) (k := 0) (v := .ref 621) trivial (by decide +kernel) (by exact e6) ?_
    refine ev_r_getC (pc := 562) (y := 141) (ci := 13) (f := 58) (fin := 1) (k' := 665) (by decide +kernel) (by decide +kernel) (by exact ev_ob_621) rfl rfl ?_
    refine ev_r_iload_n (pc := 565) (k := 1) (v := Int32.ofInt a0) (by decide +kernel) (by exact e7) ?_
    refine ev_r_aload_n (pc := 566) (k := 0) (v := .ref 621) trivial (by decide +kernel) (by exact e6) ?_
    refine ev_r_iload_n (pc := 567) (k := 1) (v := Int32.ofInt a0) (by decide +kernel) (by exact e7) ?_
    refine ev_r_iconst (pc := 568) (k := 5) (by decide +kernel) ?_
    refine ev_r_iconst (pc := 569) (k := 0) (by decide +kernel) ?_
    refine ev_r_iconst (pc := 570) (k := 0) (by decide +kernel) ?_
    refine ev_r_virt (pc := 571) (y := 682) (mi := 309) (na := 4) (k := 621) (as := [.int (Int32.ofInt a0), .int (Int32.ofInt 5), .int (Int32.ofInt 0), .int (Int32.ofInt 0)]) (rest := [.int (Int32.ofInt a0), .ref 665]) (encc := ev_oI) (Q := ev_rng) (fun x S1 h => jt_309 d (by omega) Q a0 5 0 0 ha0 (by decide) (by decide) (by decide) s9 x S1 h) (by exact ev_ob_621) (by decide +kernel) (by decide +kernel) (by decide +kernel) (by decide +kernel) rfl (by (try simp only [ev_sum, ev_nv_cat]); first | done | rfl) ?_
    intro x13 s12 hx13
    show ev_w _ _ _ _ _ [.int (Int32.ofInt x13), .int (Int32.ofInt a0), .ref 665] _ _ _ _
    refine ev_r_iast (pc := 574) hx13 ha0 (by decide +kernel) (by exact ev_ab_665) ?_
    intro s14
    exact ev_r_return (pc := 575) (x := ()) trivial (by decide +kernel) (by decide +kernel) rfl
  · intro c11
    refine ev_r_aload_n (pc := 30) (k := 0) (v := .ref 621) trivial (by decide +kernel) (by exact e6) ?_
    refine ev_r_dup (pc := 31) rfl (by decide +kernel) ?_
    refine ev_r_getI (pc := 32) (y := 676) (ci := 13) (f := 59) (fin := 0) (by decide +kernel) (by decide +kernel) (by exact ev_ob_621) rfl ?_
    intro x15 hx15
    refine ev_r_iconst (pc := 35) (k := 1) (by decide +kernel) ?_
    refine ev_r_isub (pc := 36) (by decide +kernel) ?_
    intro x16 hx16
    refine ev_r_putI (pc := 37) (y := 676) (ci := 13) (f := 59) hx16 (by decide +kernel) (by decide +kernel) (by exact ev_ob_621) rfl rfl ?_
    intro s17
    refine ev_r_aload_n (pc := 40) (k := 0) (v := .ref 621) trivial (by decide +kernel) (by exact e6) ?_
    refine ev_r_getC (pc := 41) (y := 144) (ci := 13) (f := 60) (fin := 1) (k' := 666) (by decide +kernel) (by decide +kernel) (by exact ev_ob_621) rfl rfl ?_
    refine ev_r_aload_n (pc := 44) (k := 0) (v := .ref 621) trivial (by decide +kernel) (by exact e6) ?_
    refine ev_r_getI (pc := 45) (y := 676) (ci := 13) (f := 59) (fin := 0) (by decide +kernel) (by decide +kernel) (by exact ev_ob_621) rfl ?_
    intro x18 hx18
    refine ev_r_iald (pc := 48) hx18 (by decide +kernel) (by exact ev_ab_666) ?_
    intro x19 hx19
    refine ev_r_istore_n (pc := 49) (k := 3) (by decide +kernel) (by decide +kernel) rfl ?_
    refine ev_r_aload_n (pc := 50) (k := 0) (v := .ref 621) trivial (by decide +kernel) (by exact (ev_l1 e6 (by decide) (by decide))) ?_
    refine ev_r_getC (pc := 51) (y := 147) (ci := 13) (f := 61) (fin := 1) (k' := 667) (by decide +kernel) (by decide +kernel) (by exact ev_ob_621) rfl rfl ?_
    refine ev_r_aload_n (pc := 54) (k := 0) (v := .ref 621) trivial (by decide +kernel) (by exact (ev_l1 e6 (by decide) (by decide))) ?_
    refine ev_r_getI (pc := 55) (y := 676) (ci := 13) (f := 59) (fin := 0) (by decide +kernel) (by decide +kernel) (by exact ev_ob_621) rfl ?_
    intro x20 hx20
    refine ev_r_iald (pc := 58) hx20 (by decide +kernel) (by exact ev_ab_667) ?_
    intro x21 hx21
    refine ev_r_istore (pc := 59) (k := 4) (by decide +kernel) (by decide +kernel) rfl ?_
    refine ev_r_aload_n (pc := 61) (k := 0) (v := .ref 621) trivial (by decide +kernel) (by exact (ev_l1 (ev_l1 e6 (by decide) (by decide)) (by decide) (by decide))) ?_
    refine ev_r_getC (pc := 62) (y := 150) (ci := 13) (f := 62) (fin := 1) (k' := 668) (by decide +kernel) (by decide +kernel) (by exact ev_ob_621) rfl rfl ?_
    refine ev_r_aload_n (pc := 65) (k := 0) (v := .ref 621) trivial (by decide +kernel) (by exact (ev_l1 (ev_l1 e6 (by decide) (by decide)) (by decide) (by decide))) ?_
    refine ev_r_getI (pc := 66) (y := 676) (ci := 13) (f := 59) (fin := 0) (by decide +kernel) (by decide +kernel) (by exact ev_ob_621) rfl ?_
    intro x22 hx22
    refine ev_r_iald (pc := 69) hx22 (by decide +kernel) (by exact ev_ab_668) ?_
    intro x23 hx23
    refine ev_r_istore (pc := 70) (k := 5) (by decide +kernel) (by decide +kernel) rfl ?_
    refine ev_r_iload_n (pc := 72) (k := 3) (v := Int32.ofInt x19) (by decide +kernel) (by exact (ev_l1 (ev_lk_st1 ev_lk_st1_self (by decide) rfl) (by decide) (by decide))) ?_
    refine ev_r_jn (Q := fun K => ∀ (x24 : Int) (hx24 : ev_rng x24), ∀ (x25 : Int) (hx25 : ev_rng x25), ∀ (s32 : ev_St) (w26 : List (Nat × Value)), ev_lk w26 0 = some (.ref 621) → ev_lk w26 1 = some (.int (Int32.ofInt a0)) → ev_lk w26 2 = some (.int (Int32.ofInt x4)) → ev_lk w26 3 = some (.int (Int32.ofInt x24)) → ev_lk w26 4 = some (.int (Int32.ofInt x25)) → ev_w none (ev_Mof 313) d 517 w26 [] s32 (K x24 x25 s32) ev_eU ev_PU) ?_ ?_
    · intro x24 hx24 x25 hx25 s32 w26 e27 e28 e29 e30 e31
      refine ev_r_iload_n (pc := 517) (k := 3) (v := Int32.ofInt x24) (by decide +kernel) (by exact e30) ?_
      refine ev_r_bipush (pc := 518) (k := 11) (by decide +kernel) (by decide +kernel) ?_
      refine ev_r_jn (Q := fun K => ∀ (s37 : ev_St) (w33 : List (Nat × Value)), ev_lk w33 0 = some (.ref 621) → ev_lk w33 1 = some (.int (Int32.ofInt a0)) → ev_lk w33 2 = some (.int (Int32.ofInt x4)) → ev_w none (ev_Mof 313) d 558 w33 [] s37 (K  s37) ev_eU ev_PU) ?_ ?_
      · intro  s37 w33 e34 e35 e36
        refine ev_r_goto (pc := 558) (o := (-535)) (t := 23) (by decide +kernel) (by decide +kernel) ?_
        exact hK23 x4 hx4 s37 _ (by exact e34) (by exact e35) (by exact e36)
      · intro K558 hK558
        refine ev_r_icmp (pc := 520) (q := .ne) (o := 38) (t := 558) (c := x24 ≠ 11) (by decide +kernel) (ev_k_ne hx24 (by decide)) (by decide +kernel) ?_ ?_
        · intro c38
          exact hK558  s32 _ (by exact e27) (by exact e28) (by exact e29)
        · intro c38
          refine ev_r_aload_n (pc := 523) (k := 0) (v := .ref 621) trivial (by decide +kernel) (by exact e27) ?_
          refine ev_r_getC (pc := 524) (y := 25) (ci := 13) (f := 8) (fin := 1) (k' := 627) (by decide +kernel) (by decide +kernel) (by exact ev_ob_621) rfl rfl ?_
          refine ev_r_iload (pc := 527) (k := 4) (v := Int32.ofInt x25) (by decide +kernel) (by exact e31) ?_
          refine ev_r_iald (pc := 529) hx25 (by decide +kernel) (by exact ev_ab_627) ?_
          intro x39 hx39
          refine ev_r_iconst (pc := 530) (k := -1) (by decide +kernel) ?_
          refine ev_r_jn (Q := fun K => ∀ (s45 : ev_St) (w40 : List (Nat × Value)), ev_lk w40 0 = some (.ref 621) → ev_lk w40 1 = some (.int (Int32.ofInt a0)) → ev_lk w40 2 = some (.int (Int32.ofInt x4)) → ev_lk w40 4 = some (.int (Int32.ofInt x25)) → ev_w none (ev_Mof 313) d 550 w40 [] s45 (K  s45) ev_eU ev_PU) ?_ ?_
          · intro  s45 w40 e41 e42 e43 e44
            refine ev_r_aload_n (pc := 550) (k := 0) (v := .ref 621) trivial (by decide +kernel) (by exact e41) ?_
            refine ev_r_iconst (pc := 551) (k := 0) (by decide +kernel) ?_
            refine ev_r_iload (pc := 552) (k := 4) (v := Int32.ofInt x25) (by decide +kernel) (by exact e44) ?_
            refine ev_r_iconst (pc := 554) (k := 0) (by decide +kernel) ?_
            refine ev_r_virt (pc := 555) (y := 679) (mi := 310) (na := 3) (k := 621) (as := [.int (Int32.ofInt 0), .int (Int32.ofInt x25), .int (Int32.ofInt 0)]) (rest := []) (encc := ev_oU) (Q := ev_PU) (fun x S1 h => jt_310 d (by omega) Q 0 x25 0 (by decide) hx25 (by decide) s45 x S1 h) (by exact ev_ob_621) (by decide +kernel) (by decide +kernel) (by decide +kernel) (by decide +kernel) rfl (by (try simp only [ev_sum, ev_nv_cat]); first | done | rfl) ?_
            intro _ s46 _
            show ev_w _ _ _ _ _ [] _ _ _ _
            exact hK558  s46 _ (by exact e41) (by exact e42) (by exact e43)
          · intro K550 hK550
            refine ev_r_icmp (pc := 531) (q := .eq) (o := 19) (t := 550) (c := x39 = (-1)) (by decide +kernel) (ev_k_eq hx39 (by decide)) (by decide +kernel) ?_ ?_
            · intro c47
              exact hK550  s32 _ (by exact e27) (by exact e28) (by exact e29) (by exact e31)
            · intro c47
              refine ev_r_aload_n (pc := 534) (k := 0) (v := .ref 621) trivial (by decide +kernel) (by exact e27) ?_
              refine ev_r_bipush (pc := 535) (k := 11) (by decide +kernel) (by decide +kernel) ?_
              refine ev_r_iload_n (pc := 537) (k := 2) (v := Int32.ofInt x4) (by decide +kernel) (by exact e29) ?_
              refine ev_r_aload_n (pc := 538) (k := 0) (v := .ref 621) trivial (by decide +kernel) (by exact e27) ?_
              refine ev_r_getC (pc := 539) (y := 25) (ci := 13) (f := 8) (fin := 1) (k' := 627) (by decide +kernel) (by decide +kernel) (by exact ev_ob_621) rfl rfl ?_
              refine ev_r_iload (pc := 542) (k := 4) (v := Int32.ofInt x25) (by decide +kernel) (by exact e31) ?_
              refine ev_r_iald (pc := 544) hx25 (by decide +kernel) (by exact ev_ab_627) ?_
              intro x48 hx48
              refine ev_r_iadd (pc := 545) (by decide +kernel) ?_
              intro x49 hx49
              refine ev_r_iconst (pc := 546) (k := 0) (by decide +kernel) ?_
              refine ev_r_virt (pc := 547) (y := 679) (mi := 310) (na := 3) (k := 621) (as := [.int (Int32.ofInt 11), .int (Int32.ofInt x49), .int (Int32.ofInt 0)]) (rest := []) (encc := ev_oU) (Q := ev_PU) (fun x S1 h => jt_310 d (by omega) Q 11 x49 0 (by decide) hx49 (by decide) s32 x S1 h) (by exact ev_ob_621) (by decide +kernel) (by decide +kernel) (by decide +kernel) (by decide +kernel) rfl (by (try simp only [ev_sum, ev_nv_cat]); first | done | rfl) ?_
              intro _ s50 _
              show ev_w _ _ _ _ _ [] _ _ _ _
              exact hK550  s50 _ (by exact e27) (by exact e28) (by exact e29) (by exact e31)
    · intro K517 hK517
      refine ev_r_if (pc := 73) (q := .ne) (o := 29) (t := 102) (c := x19 ≠ 0) (by decide +kernel) (ev_k_ne hx19 ev_rng0) (by decide +kernel) ?_ ?_
      · intro c51
        refine ev_r_iload_n (pc := 102) (k := 3) (v := Int32.ofInt x19) (by decide +kernel) (by exact (ev_l1 (ev_lk_st1 ev_lk_st1_self (by decide) rfl) (by decide) (by decide))) ?_
        refine ev_r_iconst (pc := 103) (k := 1) (by decide +kernel) ?_
        refine ev_r_jn (Q := fun K => ∀ (s59 : ev_St) (w52 : List (Nat × Value)), ev_lk w52 0 = some (.ref 621) → ev_lk w52 1 = some (.int (Int32.ofInt a0)) → ev_lk w52 2 = some (.int (Int32.ofInt x4)) → ev_lk w52 3 = some (.int (Int32.ofInt x19)) → ev_lk w52 4 = some (.int (Int32.ofInt x21)) → ev_lk w52 5 = some (.int (Int32.ofInt x23)) → ev_w none (ev_Mof 313) d 147 w52 [] s59 (K  s59) ev_eU ev_PU) ?_ ?_
        · intro  s59 w52 e53 e54 e55 e56 e57 e58
          refine ev_r_iload_n (pc := 147) (k := 3) (v := Int32.ofInt x19) (by decide +kernel) (by exact e56) ?_
          refine ev_r_iconst (pc := 148) (k := 1) (by decide +kernel) ?_
          refine ev_r_jn (Q := fun K => ∀ (s67 : ev_St) (w60 : List (Nat × Value)), ev_lk w60 0 = some (.ref 621) → ev_lk w60 1 = some (.int (Int32.ofInt a0)) → ev_lk w60 2 = some (.int (Int32.ofInt x4)) → ev_lk w60 3 = some (.int (Int32.ofInt x19)) → ev_lk w60 4 = some (.int (Int32.ofInt x21)) → ev_lk w60 5 = some (.int (Int32.ofInt x23)) → ev_w none (ev_Mof 313) d 212 w60 [] s67 (K  s67) ev_eU ev_PU) ?_ ?_
          · intro  s67 w60 e61 e62 e63 e64 e65 e66
            refine ev_r_iload_n (pc := 212) (k := 3) (v := Int32.ofInt x19) (by decide +kernel) (by exact e64) ?_
            refine ev_r_iconst (pc := 213) (k := 1) (by decide +kernel) ?_
            refine ev_r_icmp (pc := 214) (q := .ne) (o := 14) (t := 228) (c := x19 ≠ 1) (by decide +kernel) (ev_k_ne hx19 (by decide)) (by decide +kernel) ?_ ?_
            · intro c68
              refine ev_r_iload_n (pc := 228) (k := 3) (v := Int32.ofInt x19) (by decide +kernel) (by exact e64) ?_
              refine ev_r_iconst (pc := 229) (k := 2) (by decide +kernel) ?_
              refine ev_r_icmp (pc := 230) (q := .ne) (o := 21) (t := 251) (c := x19 ≠ 2) (by decide +kernel) (ev_k_ne hx19 (by decide)) (by decide +kernel) ?_ ?_
              · intro c69
                refine ev_r_iload_n (pc := 251) (k := 3) (v := Int32.ofInt x19) (by decide +kernel) (by exact e64) ?_
                refine ev_r_iconst (pc := 252) (k := 3) (by decide +kernel) ?_
                refine ev_r_icmp (pc := 253) (q := .ne) (o := 15) (t := 268) (c := x19 ≠ 3) (by decide +kernel) (ev_k_ne hx19 (by decide)) (by decide +kernel) ?_ ?_
                · intro c70
                  refine ev_r_iload_n (pc := 268) (k := 3) (v := Int32.ofInt x19) (by decide +kernel) (by exact e64) ?_
                  refine ev_r_iconst (pc := 269) (k := 4) (by decide +kernel) ?_
                  refine ev_r_icmp (pc := 270) (q := .ne) (o := 61) (t := 331) (c := x19 ≠ 4) (by decide +kernel) (ev_k_ne hx19 (by decide)) (by decide +kernel) ?_ ?_
                  · intro c71
                    refine ev_r_iload_n (pc := 331) (k := 3) (v := Int32.ofInt x19) (by decide +kernel) (by exact e64) ?_
                    refine ev_r_iconst (pc := 332) (k := 5) (by decide +kernel) ?_
                    refine ev_r_icmp (pc := 333) (q := .ne) (o := 26) (t := 359) (c := x19 ≠ 5) (by decide +kernel) (ev_k_ne hx19 (by decide)) (by decide +kernel) ?_ ?_
                    · intro c72
                      refine ev_r_iload_n (pc := 359) (k := 3) (v := Int32.ofInt x19) (by decide +kernel) (by exact e64) ?_
                      refine ev_r_bipush (pc := 360) (k := 6) (by decide +kernel) (by decide +kernel) ?_
                      refine ev_r_icmp (pc := 362) (q := .ne) (o := 15) (t := 377) (c := x19 ≠ 6) (by decide +kernel) (ev_k_ne hx19 (by decide)) (by decide +kernel) ?_ ?_
                      · intro c73
                        refine ev_r_iload_n (pc := 377) (k := 3) (v := Int32.ofInt x19) (by decide +kernel) (by exact e64) ?_
                        refine ev_r_bipush (pc := 378) (k := 7) (by decide +kernel) (by decide +kernel) ?_
                        refine ev_r_icmp (pc := 380) (q := .ne) (o := 58) (t := 438) (c := x19 ≠ 7) (by decide +kernel) (ev_k_ne hx19 (by decide)) (by decide +kernel) ?_ ?_
                        · intro c74
                          refine ev_r_iload_n (pc := 438) (k := 3) (v := Int32.ofInt x19) (by decide +kernel) (by exact e64) ?_
                          refine ev_r_bipush (pc := 439) (k := 8) (by decide +kernel) (by decide +kernel) ?_
                          refine ev_r_icmp (pc := 441) (q := .ne) (o := 17) (t := 458) (c := x19 ≠ 8) (by decide +kernel) (ev_k_ne hx19 (by decide)) (by decide +kernel) ?_ ?_
                          · intro c75
                            refine ev_r_iload_n (pc := 458) (k := 3) (v := Int32.ofInt x19) (by decide +kernel) (by exact e64) ?_
                            refine ev_r_bipush (pc := 459) (k := 9) (by decide +kernel) (by decide +kernel) ?_
                            refine ev_r_icmp (pc := 461) (q := .ne) (o := 23) (t := 484) (c := x19 ≠ 9) (by decide +kernel) (ev_k_ne hx19 (by decide)) (by decide +kernel) ?_ ?_
                            · intro c76
                              refine ev_r_iload_n (pc := 484) (k := 3) (v := Int32.ofInt x19) (by decide +kernel) (by exact e64) ?_
                              refine ev_r_bipush (pc := 485) (k := 10) (by decide +kernel) (by decide +kernel) ?_
                              refine ev_r_icmp (pc := 487) (q := .ne) (o := 30) (t := 517) (c := x19 ≠ 10) (by decide +kernel) (ev_k_ne hx19 (by decide)) (by decide +kernel) ?_ ?_
                              · intro c77
                                exact hK517 x19 hx19 x21 hx21 s67 _ (by exact e61) (by exact e62) (by exact e63) (by exact e64) (by exact e65)
                              · intro c77
                                refine ev_r_aload_n (pc := 490) (k := 0) (v := .ref 621) trivial (by decide +kernel) (by exact e61) ?_
                                refine ev_r_getC (pc := 491) (y := 22) (ci := 13) (f := 7) (fin := 1) (k' := 626) (by decide +kernel) (by decide +kernel) (by exact ev_ob_621) rfl rfl ?_
                                refine ev_r_iload (pc := 494) (k := 4) (v := Int32.ofInt x21) (by decide +kernel) (by exact e65) ?_
                                refine ev_r_iald (pc := 496) hx21 (by decide +kernel) (by exact ev_ab_626) ?_
                                intro x78 hx78
                                refine ev_r_iconst (pc := 497) (k := -1) (by decide +kernel) ?_
                                refine ev_r_icmp (pc := 498) (q := .eq) (o := 19) (t := 517) (c := x78 = (-1)) (by decide +kernel) (ev_k_eq hx78 (by decide)) (by decide +kernel) ?_ ?_
                                · intro c79
                                  exact hK517 x19 hx19 x21 hx21 s67 _ (by exact e61) (by exact e62) (by exact e63) (by exact e64) (by exact e65)
                                · intro c79
                                  refine ev_r_aload_n (pc := 501) (k := 0) (v := .ref 621) trivial (by decide +kernel) (by exact e61) ?_
                                  refine ev_r_bipush (pc := 502) (k := 11) (by decide +kernel) (by decide +kernel) ?_
                                  refine ev_r_iload_n (pc := 504) (k := 2) (v := Int32.ofInt x4) (by decide +kernel) (by exact e63) ?_
                                  refine ev_r_aload_n (pc := 505) (k := 0) (v := .ref 621) trivial (by decide +kernel) (by exact e61) ?_
                                  refine ev_r_getC (pc := 506) (y := 22) (ci := 13) (f := 7) (fin := 1) (k' := 626) (by decide +kernel) (by decide +kernel) (by exact ev_ob_621) rfl rfl ?_
                                  refine ev_r_iload (pc := 509) (k := 4) (v := Int32.ofInt x21) (by decide +kernel) (by exact e65) ?_
                                  refine ev_r_iald (pc := 511) hx21 (by decide +kernel) (by exact ev_ab_626) ?_
                                  intro x80 hx80
                                  refine ev_r_iadd (pc := 512) (by decide +kernel) ?_
                                  intro x81 hx81
                                  refine ev_r_iconst (pc := 513) (k := 0) (by decide +kernel) ?_
                                  refine ev_r_virt (pc := 514) (y := 679) (mi := 310) (na := 3) (k := 621) (as := [.int (Int32.ofInt 11), .int (Int32.ofInt x81), .int (Int32.ofInt 0)]) (rest := []) (encc := ev_oU) (Q := ev_PU) (fun x S1 h => jt_310 d (by omega) Q 11 x81 0 (by decide) hx81 (by decide) s67 x S1 h) (by exact ev_ob_621) (by decide +kernel) (by decide +kernel) (by decide +kernel) (by decide +kernel) rfl (by (try simp only [ev_sum, ev_nv_cat]); first | done | rfl) ?_
                                  intro _ s82 _
                                  show ev_w _ _ _ _ _ [] _ _ _ _
                                  exact hK517 x19 hx19 x21 hx21 s82 _ (by exact e61) (by exact e62) (by exact e63) (by exact e64) (by exact e65)
                            · intro c76
                              refine ev_r_aload_n (pc := 464) (k := 0) (v := .ref 621) trivial (by decide +kernel) (by exact e61) ?_
                              refine ev_r_getC (pc := 465) (y := 135) (ci := 13) (f := 56) (fin := 1) (k' := 663) (by decide +kernel) (by decide +kernel) (by exact ev_ob_621) rfl rfl ?_
                              refine ev_r_sipush (pc := 468) (k := 210) (by decide +kernel) (by decide +kernel) ?_
                              refine ev_r_iload_n (pc := 471) (k := 1) (v := Int32.ofInt a0) (by decide +kernel) (by exact e62) ?_
                              refine ev_r_imul (pc := 472) (by decide +kernel) ?_
                              intro x83 hx83
                              refine ev_r_iload (pc := 473) (k := 5) (v := Int32.ofInt x23) (by decide +kernel) (by exact e66) ?_
                              refine ev_r_iadd (pc := 475) (by decide +kernel) ?_
                              intro x84 hx84
                              refine ev_r_aload_n (pc := 476) (k := 0) (v := .ref 621) trivial (by decide +kernel) (by exact e61) ?_
                              refine ev_r_getI (pc := 477) (y := 673) (ci := 13) (f := 54) (fin := 0) (by decide +kernel) (by decide +kernel) (by exact ev_ob_621) rfl ?_
                              intro x85 hx85
                              refine ev_r_iast (pc := 480) hx85 hx84 (by decide +kernel) (by exact ev_ab_663) ?_
                              intro s86
                              refine ev_r_goto (pc := 481) (o := 36) (t := 517) (by decide +kernel) (by decide +kernel) ?_
                              exact hK517 x19 hx19 x21 hx21 s86 _ (by exact e61) (by exact e62) (by exact e63) (by exact e64) (by exact e65)
                          · intro c75
                            refine ev_r_aload_n (pc := 444) (k := 0) (v := .ref 621) trivial (by decide +kernel) (by exact e61) ?_
                            refine ev_r_iload_n (pc := 445) (k := 1) (v := Int32.ofInt a0) (by decide +kernel) (by exact e62) ?_
                            refine ev_r_iconst (pc := 446) (k := 4) (by decide +kernel) ?_
                            refine ev_r_iload (pc := 447) (k := 5) (v := Int32.ofInt x23) (by decide +kernel) (by exact e66) ?_
                            refine ev_r_iconst (pc := 449) (k := 0) (by decide +kernel) ?_
                            refine ev_r_virt (pc := 450) (y := 682) (mi := 309) (na := 4) (k := 621) (as := [.int (Int32.ofInt a0), .int (Int32.ofInt 4), .int (Int32.ofInt x23), .int (Int32.ofInt 0)]) (rest := []) (encc := ev_oI) (Q := ev_rng) (fun x S1 h => jt_309 d (by omega) Q a0 4 x23 0 ha0 (by decide) hx23 (by decide) s67 x S1 h) (by exact ev_ob_621) (by decide +kernel) (by decide +kernel) (by decide +kernel) (by decide +kernel) rfl (by (try simp only [ev_sum, ev_nv_cat]); first | done | rfl) ?_
                            intro x88 s87 hx88
                            show ev_w _ _ _ _ _ [.int (Int32.ofInt x88)] _ _ _ _
                            refine ev_r_istore (pc := 453) (k := 6) (by decide +kernel) (by decide +kernel) rfl ?_
                            refine ev_r_goto (pc := 455) (o := 62) (t := 517) (by decide +kernel) (by decide +kernel) ?_
                            exact hK517 x19 hx19 x21 hx21 s87 _ (by exact (ev_l1 e61 (by decide) (by decide))) (by exact (ev_l1 e62 (by decide) (by decide))) (by exact (ev_l1 e63 (by decide) (by decide))) (by exact (ev_l1 e64 (by decide) (by decide))) (by exact (ev_l1 e65 (by decide) (by decide)))
                        · intro c74
                          refine ev_r_aload_n (pc := 383) (k := 0) (v := .ref 621) trivial (by decide +kernel) (by exact e61) ?_
                          refine ev_r_iload_n (pc := 384) (k := 1) (v := Int32.ofInt a0) (by decide +kernel) (by exact e62) ?_
                          refine ev_r_iconst (pc := 385) (k := 3) (by decide +kernel) ?_
                          refine ev_r_iconst (pc := 386) (k := 0) (by decide +kernel) ?_
                          refine ev_r_iconst (pc := 387) (k := 0) (by decide +kernel) ?_
                          refine ev_r_virt (pc := 388) (y := 682) (mi := 309) (na := 4) (k := 621) (as := [.int (Int32.ofInt a0), .int (Int32.ofInt 3), .int (Int32.ofInt 0), .int (Int32.ofInt 0)]) (rest := []) (encc := ev_oI) (Q := ev_rng) (fun x S1 h => jt_309 d (by omega) Q a0 3 0 0 ha0 (by decide) (by decide) (by decide) s67 x S1 h) (by exact ev_ob_621) (by decide +kernel) (by decide +kernel) (by decide +kernel) (by decide +kernel) rfl (by (try simp only [ev_sum, ev_nv_cat]); first | done | rfl) ?_
                          intro x90 s89 hx90
                          show ev_w _ _ _ _ _ [.int (Int32.ofInt x90)] _ _ _ _
                          refine ev_r_istore (pc := 391) (k := 6) (by decide +kernel) (by decide +kernel) rfl ?_
                          refine ev_r_aload_n (pc := 393) (k := 0) (v := .ref 621) trivial (by decide +kernel) (by exact (ev_l1 e61 (by decide) (by decide))) ?_
                          refine ev_r_getC (pc := 394) (y := 138) (ci := 13) (f := 57) (fin := 1) (k' := 664) (by decide +kernel) (by decide +kernel) (by exact ev_ob_621) rfl rfl ?_
                          refine ev_r_sipush (pc := 397) (k := 210) (by decide +kernel) (by decide +kernel) ?_
                          refine ev_r_iload_n (pc := 400) (k := 1) (v := Int32.ofInt a0) (by decide +kernel) (by exact (ev_l1 e62 (by decide) (by decide))) ?_
                          refine ev_r_imul (pc := 401) (by decide +kernel) ?_
                          intro x91 hx91
                          refine ev_r_iload (pc := 402) (k := 5) (v := Int32.ofInt x23) (by decide +kernel) (by exact (ev_lk_st1 e66 (by decide) rfl)) ?_
                          refine ev_r_iadd (pc := 404) (by decide +kernel) ?_
                          intro x92 hx92
                          refine ev_r_aload_n (pc := 405) (k := 0) (v := .ref 621) trivial (by decide +kernel) (by exact (ev_l1 e61 (by decide) (by decide))) ?_
                          refine ev_r_getI (pc := 406) (y := 673) (ci := 13) (f := 54) (fin := 0) (by decide +kernel) (by decide +kernel) (by exact ev_ob_621) rfl ?_
                          intro x93 hx93
                          refine ev_r_iast (pc := 409) hx93 hx92 (by decide +kernel) (by exact ev_ab_664) ?_
                          intro s94
                          refine ev_r_aload_n (pc := 410) (k := 0) (v := .ref 621) trivial (by decide +kernel) (by exact (ev_l1 e61 (by decide) (by decide))) ?_
                          refine ev_r_bipush (pc := 411) (k := 9) (by decide +kernel) (by decide +kernel) ?_
                          refine ev_r_iload (pc := 413) (k := 4) (v := Int32.ofInt x21) (by decide +kernel) (by exact (ev_l1 e65 (by decide) (by decide))) ?_
                          refine ev_r_iload (pc := 415) (k := 6) (v := Int32.ofInt x90) (by decide +kernel) (by exact ev_lk_st1_self) ?_
                          refine ev_r_virt (pc := 417) (y := 679) (mi := 310) (na := 3) (k := 621) (as := [.int (Int32.ofInt 9), .int (Int32.ofInt x21), .int (Int32.ofInt x90)]) (rest := []) (encc := ev_oU) (Q := ev_PU) (fun x S1 h => jt_310 d (by omega) Q 9 x21 x90 (by decide) hx21 hx90 s94 x S1 h) (by exact ev_ob_621) (by decide +kernel) (by decide +kernel) (by decide +kernel) (by decide +kernel) rfl (by (try simp only [ev_sum, ev_nv_cat]); first | done | rfl) ?_
                          intro _ s95 _
                          show ev_w _ _ _ _ _ [] _ _ _ _
                          refine ev_r_aload_n (pc := 420) (k := 0) (v := .ref 621) trivial (by decide +kernel) (by exact (ev_l1 e61 (by decide) (by decide))) ?_
                          refine ev_r_iconst (pc := 421) (k := 4) (by decide +kernel) ?_
                          refine ev_r_iload_n (pc := 422) (k := 2) (v := Int32.ofInt x4) (by decide +kernel) (by exact (ev_l1 e63 (by decide) (by decide))) ?_
                          refine ev_r_aload_n (pc := 423) (k := 0) (v := .ref 621) trivial (by decide +kernel) (by exact (ev_l1 e61 (by decide) (by decide))) ?_
                          refine ev_r_getC (pc := 424) (y := 25) (ci := 13) (f := 8) (fin := 1) (k' := 627) (by decide +kernel) (by decide +kernel) (by exact ev_ob_621) rfl rfl ?_
                          refine ev_r_iload (pc := 427) (k := 4) (v := Int32.ofInt x21) (by decide +kernel) (by exact (ev_l1 e65 (by decide) (by decide))) ?_
                          refine ev_r_iald (pc := 429) hx21 (by decide +kernel) (by exact ev_ab_627) ?_
                          intro x96 hx96
                          refine ev_r_iadd (pc := 430) (by decide +kernel) ?_
                          intro x97 hx97
                          refine ev_r_iconst (pc := 431) (k := 0) (by decide +kernel) ?_
                          refine ev_r_virt (pc := 432) (y := 679) (mi := 310) (na := 3) (k := 621) (as := [.int (Int32.ofInt 4), .int (Int32.ofInt x97), .int (Int32.ofInt 0)]) (rest := []) (encc := ev_oU) (Q := ev_PU) (fun x S1 h => jt_310 d (by omega) Q 4 x97 0 (by decide) hx97 (by decide) s95 x S1 h) (by exact ev_ob_621) (by decide +kernel) (by decide +kernel) (by decide +kernel) (by decide +kernel) rfl (by (try simp only [ev_sum, ev_nv_cat]); first | done | rfl) ?_
                          intro _ s98 _
                          show ev_w _ _ _ _ _ [] _ _ _ _
                          refine ev_r_goto (pc := 435) (o := 82) (t := 517) (by decide +kernel) (by decide +kernel) ?_
                          exact hK517 x19 hx19 x21 hx21 s98 _ (by exact (ev_l1 e61 (by decide) (by decide))) (by exact (ev_l1 e62 (by decide) (by decide))) (by exact (ev_l1 e63 (by decide) (by decide))) (by exact (ev_l1 e64 (by decide) (by decide))) (by exact (ev_l1 e65 (by decide) (by decide)))
                      · intro c73
                        refine ev_r_aload_n (pc := 365) (k := 0) (v := .ref 621) trivial (by decide +kernel) (by exact e61) ?_
                        refine ev_r_iload_n (pc := 366) (k := 1) (v := Int32.ofInt a0) (by decide +kernel) (by exact e62) ?_
                        refine ev_r_iload (pc := 367) (k := 4) (v := Int32.ofInt x21) (by decide +kernel) (by exact e65) ?_
                        refine ev_r_iload (pc := 369) (k := 5) (v := Int32.ofInt x23) (by decide +kernel) (by exact e66) ?_
                        refine ev_r_virt (pc := 371) (y := 689) (mi := 312) (na := 3) (k := 621) (as := [.int (Int32.ofInt a0), .int (Int32.ofInt x21), .int (Int32.ofInt x23)]) (rest := []) (encc := ev_oU) (Q := ev_PU) (fun x S1 h => jt_312 d (by omega) Q a0 x21 x23 ha0 hx21 hx23 s67 x S1 h) (by exact ev_ob_621) (by decide +kernel) (by decide +kernel) (by decide +kernel) (by decide +kernel) rfl (by (try simp only [ev_sum, ev_nv_cat]); first | done | rfl) ?_
                        intro _ s99 _
                        show ev_w _ _ _ _ _ [] _ _ _ _
                        refine ev_r_goto (pc := 374) (o := 143) (t := 517) (by decide +kernel) (by decide +kernel) ?_
                        exact hK517 x19 hx19 x21 hx21 s99 _ (by exact e61) (by exact e62) (by exact e63) (by exact e64) (by exact e65)
                    · intro c72
                      refine ev_r_aload_n (pc := 336) (k := 0) (v := .ref 621) trivial (by decide +kernel) (by exact e61) ?_
                      refine ev_r_iload_n (pc := 337) (k := 1) (v := Int32.ofInt a0) (by decide +kernel) (by exact e62) ?_
                      refine ev_r_iconst (pc := 338) (k := 3) (by decide +kernel) ?_
                      refine ev_r_iload (pc := 339) (k := 5) (v := Int32.ofInt x23) (by decide +kernel) (by exact e66) ?_
                      refine ev_r_iconst (pc := 341) (k := 0) (by decide +kernel) ?_
                      refine ev_r_virt (pc := 342) (y := 682) (mi := 309) (na := 4) (k := 621) (as := [.int (Int32.ofInt a0), .int (Int32.ofInt 3), .int (Int32.ofInt x23), .int (Int32.ofInt 0)]) (rest := []) (encc := ev_oI) (Q := ev_rng) (fun x S1 h => jt_309 d (by omega) Q a0 3 x23 0 ha0 (by decide) hx23 (by decide) s67 x S1 h) (by exact ev_ob_621) (by decide +kernel) (by decide +kernel) (by decide +kernel) (by decide +kernel) rfl (by (try simp only [ev_sum, ev_nv_cat]); first | done | rfl) ?_
                      intro x101 s100 hx101
                      show ev_w _ _ _ _ _ [.int (Int32.ofInt x101)] _ _ _ _
                      refine ev_r_istore (pc := 345) (k := 6) (by decide +kernel) (by decide +kernel) rfl ?_
                      refine ev_r_aload_n (pc := 347) (k := 0) (v := .ref 621) trivial (by decide +kernel) (by exact (ev_l1 e61 (by decide) (by decide))) ?_
                      refine ev_r_iload_n (pc := 348) (k := 1) (v := Int32.ofInt a0) (by decide +kernel) (by exact (ev_l1 e62 (by decide) (by decide))) ?_
                      refine ev_r_iload (pc := 349) (k := 4) (v := Int32.ofInt x21) (by decide +kernel) (by exact (ev_l1 e65 (by decide) (by decide))) ?_
                      refine ev_r_iload (pc := 351) (k := 5) (v := Int32.ofInt x23) (by decide +kernel) (by exact (ev_lk_st1 e66 (by decide) rfl)) ?_
                      refine ev_r_virt (pc := 353) (y := 689) (mi := 312) (na := 3) (k := 621) (as := [.int (Int32.ofInt a0), .int (Int32.ofInt x21), .int (Int32.ofInt x23)]) (rest := []) (encc := ev_oU) (Q := ev_PU) (fun x S1 h => jt_312 d (by omega) Q a0 x21 x23 ha0 hx21 hx23 s100 x S1 h) (by exact ev_ob_621) (by decide +kernel) (by decide +kernel) (by decide +kernel) (by decide +kernel) rfl (by (try simp only [ev_sum, ev_nv_cat]); first | done | rfl) ?_
                      intro _ s102 _
                      show ev_w _ _ _ _ _ [] _ _ _ _
                      refine ev_r_goto (pc := 356) (o := 161) (t := 517) (by decide +kernel) (by decide +kernel) ?_
                      exact hK517 x19 hx19 x21 hx21 s102 _ (by exact (ev_l1 e61 (by decide) (by decide))) (by exact (ev_l1 e62 (by decide) (by decide))) (by exact (ev_l1 e63 (by decide) (by decide))) (by exact (ev_l1 e64 (by decide) (by decide))) (by exact (ev_l1 e65 (by decide) (by decide)))
                  · intro c71
                    refine ev_r_aload_n (pc := 273) (k := 0) (v := .ref 621) trivial (by decide +kernel) (by exact e61) ?_
                    refine ev_r_getC (pc := 274) (y := 25) (ci := 13) (f := 8) (fin := 1) (k' := 627) (by decide +kernel) (by decide +kernel) (by exact ev_ob_621) rfl rfl ?_
                    refine ev_r_iload (pc := 277) (k := 4) (v := Int32.ofInt x21) (by decide +kernel) (by exact e65) ?_
                    refine ev_r_iald (pc := 279) hx21 (by decide +kernel) (by exact ev_ab_627) ?_
                    intro x103 hx103
                    refine ev_r_iconst (pc := 280) (k := -1) (by decide +kernel) ?_
                    refine ev_r_jn (Q := fun K => ∀ (x104 : Int) (hx104 : ev_rng x104), ∀ (s111 : ev_St) (w105 : List (Nat × Value)), ev_lk w105 0 = some (.ref 621) → ev_lk w105 1 = some (.int (Int32.ofInt a0)) → ev_lk w105 2 = some (.int (Int32.ofInt x4)) → ev_lk w105 3 = some (.int (Int32.ofInt x19)) → ev_lk w105 4 = some (.int (Int32.ofInt x21)) → ev_w none (ev_Mof 313) d 301 w105 [.int (Int32.ofInt x104)] s111 (K x104 s111) ev_eU ev_PU) ?_ ?_
                    · intro x104 hx104 s111 w105 e106 e107 e108 e109 e110
                      refine ev_r_istore (pc := 301) (k := 6) (by decide +kernel) (by decide +kernel) rfl ?_
                      refine ev_r_iload (pc := 303) (k := 6) (v := Int32.ofInt x104) (by decide +kernel) (by exact ev_lk_st1_self) ?_
                      refine ev_r_iconst (pc := 305) (k := -1) (by decide +kernel) ?_
                      refine ev_r_jn (Q := fun K => ∀ (s118 : ev_St) (w112 : List (Nat × Value)), ev_lk w112 0 = some (.ref 621) → ev_lk w112 1 = some (.int (Int32.ofInt a0)) → ev_lk w112 2 = some (.int (Int32.ofInt x4)) → ev_lk w112 3 = some (.int (Int32.ofInt x19)) → ev_lk w112 4 = some (.int (Int32.ofInt x21)) → ev_w none (ev_Mof 313) d 319 w112 [] s118 (K  s118) ev_eU ev_PU) ?_ ?_
                      · intro  s118 w112 e113 e114 e115 e116 e117
                        refine ev_r_aload_n (pc := 319) (k := 0) (v := .ref 621) trivial (by decide +kernel) (by exact e113) ?_
                        refine ev_r_bipush (pc := 320) (k := 10) (by decide +kernel) (by decide +kernel) ?_
                        refine ev_r_iload (pc := 322) (k := 4) (v := Int32.ofInt x21) (by decide +kernel) (by exact e117) ?_
                        refine ev_r_iconst (pc := 324) (k := 0) (by decide +kernel) ?_
                        refine ev_r_virt (pc := 325) (y := 679) (mi := 310) (na := 3) (k := 621) (as := [.int (Int32.ofInt 10), .int (Int32.ofInt x21), .int (Int32.ofInt 0)]) (rest := []) (encc := ev_oU) (Q := ev_PU) (fun x S1 h => jt_310 d (by omega) Q 10 x21 0 (by decide) hx21 (by decide) s118 x S1 h) (by exact ev_ob_621) (by decide +kernel) (by decide +kernel) (by decide +kernel) (by decide +kernel) rfl (by (try simp only [ev_sum, ev_nv_cat]); first | done | rfl) ?_
                        intro _ s119 _
                        show ev_w _ _ _ _ _ [] _ _ _ _
                        refine ev_r_goto (pc := 328) (o := 189) (t := 517) (by decide +kernel) (by decide +kernel) ?_
                        exact hK517 x19 hx19 x21 hx21 s119 _ (by exact e113) (by exact e114) (by exact e115) (by exact e116) (by exact e117)
                      · intro K319 hK319
                        refine ev_r_icmp (pc := 306) (q := .eq) (o := 13) (t := 319) (c := x104 = (-1)) (by decide +kernel) (ev_k_eq hx104 (by decide)) (by decide +kernel) ?_ ?_
                        · intro c120
                          exact hK319  s111 _ (by exact (ev_l1 e106 (by decide) (by decide))) (by exact (ev_l1 e107 (by decide) (by decide))) (by exact (ev_l1 e108 (by decide) (by decide))) (by exact (ev_l1 e109 (by decide) (by decide))) (by exact (ev_l1 e110 (by decide) (by decide)))
                        · intro c120
                          refine ev_r_aload_n (pc := 309) (k := 0) (v := .ref 621) trivial (by decide +kernel) (by exact (ev_l1 e106 (by decide) (by decide))) ?_
                          refine ev_r_bipush (pc := 310) (k := 7) (by decide +kernel) (by decide +kernel) ?_
                          refine ev_r_iload (pc := 312) (k := 4) (v := Int32.ofInt x21) (by decide +kernel) (by exact (ev_l1 e110 (by decide) (by decide))) ?_
                          refine ev_r_iload (pc := 314) (k := 6) (v := Int32.ofInt x104) (by decide +kernel) (by exact ev_lk_st1_self) ?_
                          refine ev_r_virt (pc := 316) (y := 679) (mi := 310) (na := 3) (k := 621) (as := [.int (Int32.ofInt 7), .int (Int32.ofInt x21), .int (Int32.ofInt x104)]) (rest := []) (encc := ev_oU) (Q := ev_PU) (fun x S1 h => jt_310 d (by omega) Q 7 x21 x104 (by decide) hx21 hx104 s111 x S1 h) (by exact ev_ob_621) (by decide +kernel) (by decide +kernel) (by decide +kernel) (by decide +kernel) rfl (by (try simp only [ev_sum, ev_nv_cat]); first | done | rfl) ?_
                          intro _ s121 _
                          show ev_w _ _ _ _ _ [] _ _ _ _
                          exact hK319  s121 _ (by exact (ev_l1 e106 (by decide) (by decide))) (by exact (ev_l1 e107 (by decide) (by decide))) (by exact (ev_l1 e108 (by decide) (by decide))) (by exact (ev_l1 e109 (by decide) (by decide))) (by exact (ev_l1 e110 (by decide) (by decide)))
                    · intro K301 hK301
                      refine ev_r_icmp (pc := 281) (q := .ne) (o := 7) (t := 288) (c := x103 ≠ (-1)) (by decide +kernel) (ev_k_ne hx103 (by decide)) (by decide +kernel) ?_ ?_
                      · intro c122
                        refine ev_r_aload_n (pc := 288) (k := 0) (v := .ref 621) trivial (by decide +kernel) (by exact e61) ?_
                        refine ev_r_iload_n (pc := 289) (k := 1) (v := Int32.ofInt a0) (by decide +kernel) (by exact e62) ?_
                        refine ev_r_iconst (pc := 290) (k := 2) (by decide +kernel) ?_
                        refine ev_r_aload_n (pc := 291) (k := 0) (v := .ref 621) trivial (by decide +kernel) (by exact e61) ?_
                        refine ev_r_getI (pc := 292) (y := 673) (ci := 13) (f := 54) (fin := 0) (by decide +kernel) (by decide +kernel) (by exact ev_ob_621) rfl ?_
                        intro x123 hx123
                        refine ev_r_iconst (pc := 295) (k := 1) (by decide +kernel) ?_
                        refine ev_r_iadd (pc := 296) (by decide +kernel) ?_
                        intro x124 hx124
                        refine ev_r_iconst (pc := 297) (k := 0) (by decide +kernel) ?_
                        refine ev_r_virt (pc := 298) (y := 682) (mi := 309) (na := 4) (k := 621) (as := [.int (Int32.ofInt a0), .int (Int32.ofInt 2), .int (Int32.ofInt x124), .int (Int32.ofInt 0)]) (rest := []) (encc := ev_oI) (Q := ev_rng) (fun x S1 h => jt_309 d (by omega) Q a0 2 x124 0 ha0 (by decide) hx124 (by decide) s67 x S1 h) (by exact ev_ob_621) (by decide +kernel) (by decide +kernel) (by decide +kernel) (by decide +kernel) rfl (by (try simp only [ev_sum, ev_nv_cat]); first | done | rfl) ?_
                        intro x126 s125 hx126
                        show ev_w _ _ _ _ _ [.int (Int32.ofInt x126)] _ _ _ _
                        exact hK301 x126 hx126 s125 _ (by exact e61) (by exact e62) (by exact e63) (by exact e64) (by exact e65)
                      · intro c122
                        refine ev_r_iconst (pc := 284) (k := -1) (by decide +kernel) ?_
                        refine ev_r_goto (pc := 285) (o := 16) (t := 301) (by decide +kernel) (by decide +kernel) ?_
                        exact hK301 ((-1)) (by decide) s67 _ (by exact e61) (by exact e62) (by exact e63) (by exact e64) (by exact e65)
                · intro c70
                  refine ev_r_aload_n (pc := 256) (k := 0) (v := .ref 621) trivial (by decide +kernel) (by exact e61) ?_
                  refine ev_r_iload_n (pc := 257) (k := 1) (v := Int32.ofInt a0) (by decide +kernel) (by exact e62) ?_
                  refine ev_r_iload (pc := 258) (k := 4) (v := Int32.ofInt x21) (by decide +kernel) (by exact e65) ?_
                  refine ev_r_iload (pc := 260) (k := 5) (v := Int32.ofInt x23) (by decide +kernel) (by exact e66) ?_
                  refine ev_r_virt (pc := 262) (y := 686) (mi := 311) (na := 3) (k := 621) (as := [.int (Int32.ofInt a0), .int (Int32.ofInt x21), .int (Int32.ofInt x23)]) (rest := []) (encc := ev_oU) (Q := ev_PU) (fun x S1 h => jt_311 d (by omega) Q a0 x21 x23 ha0 hx21 hx23 s67 x S1 h) (by exact ev_ob_621) (by decide +kernel) (by decide +kernel) (by decide +kernel) (by decide +kernel) rfl (by (try simp only [ev_sum, ev_nv_cat]); first | done | rfl) ?_
                  intro _ s127 _
                  show ev_w _ _ _ _ _ [] _ _ _ _
                  refine ev_r_goto (pc := 265) (o := 252) (t := 517) (by decide +kernel) (by decide +kernel) ?_
                  exact hK517 x19 hx19 x21 hx21 s127 _ (by exact e61) (by exact e62) (by exact e63) (by exact e64) (by exact e65)
              · intro c69
                refine ev_r_aload_n (pc := 233) (k := 0) (v := .ref 621) trivial (by decide +kernel) (by exact e61) ?_
                refine ev_r_iconst (pc := 234) (k := 4) (by decide +kernel) ?_
                refine ev_r_iload_n (pc := 235) (k := 2) (v := Int32.ofInt x4) (by decide +kernel) (by exact e63) ?_
                refine ev_r_aload_n (pc := 236) (k := 0) (v := .ref 621) trivial (by decide +kernel) (by exact e61) ?_
                refine ev_r_getC (pc := 237) (y := 22) (ci := 13) (f := 7) (fin := 1) (k' := 626) (by decide +kernel) (by decide +kernel) (by exact ev_ob_621) rfl rfl ?_
                refine ev_r_iload (pc := 240) (k := 4) (v := Int32.ofInt x21) (by decide +kernel) (by exact e65) ?_
                refine ev_r_iald (pc := 242) hx21 (by decide +kernel) (by exact ev_ab_626) ?_
                intro x128 hx128
                refine ev_r_iadd (pc := 243) (by decide +kernel) ?_
                intro x129 hx129
                refine ev_r_iconst (pc := 244) (k := 0) (by decide +kernel) ?_
                refine ev_r_virt (pc := 245) (y := 679) (mi := 310) (na := 3) (k := 621) (as := [.int (Int32.ofInt 4), .int (Int32.ofInt x129), .int (Int32.ofInt 0)]) (rest := []) (encc := ev_oU) (Q := ev_PU) (fun x S1 h => jt_310 d (by omega) Q 4 x129 0 (by decide) hx129 (by decide) s67 x S1 h) (by exact ev_ob_621) (by decide +kernel) (by decide +kernel) (by decide +kernel) (by decide +kernel) rfl (by (try simp only [ev_sum, ev_nv_cat]); first | done | rfl) ?_
                intro _ s130 _
                show ev_w _ _ _ _ _ [] _ _ _ _
                refine ev_r_goto (pc := 248) (o := 269) (t := 517) (by decide +kernel) (by decide +kernel) ?_
                exact hK517 x19 hx19 x21 hx21 s130 _ (by exact e61) (by exact e62) (by exact e63) (by exact e64) (by exact e65)
            · intro c68
              refine ev_r_aload_n (pc := 217) (k := 0) (v := .ref 621) trivial (by decide +kernel) (by exact e61) ?_
              refine ev_r_iconst (pc := 218) (k := 2) (by decide +kernel) ?_
              refine ev_r_iload (pc := 219) (k := 4) (v := Int32.ofInt x21) (by decide +kernel) (by exact e65) ?_
              refine ev_r_iconst (pc := 221) (k := 0) (by decide +kernel) ?_
              refine ev_r_virt (pc := 222) (y := 679) (mi := 310) (na := 3) (k := 621) (as := [.int (Int32.ofInt 2), .int (Int32.ofInt x21), .int (Int32.ofInt 0)]) (rest := []) (encc := ev_oU) (Q := ev_PU) (fun x S1 h => jt_310 d (by omega) Q 2 x21 0 (by decide) hx21 (by decide) s67 x S1 h) (by exact ev_ob_621) (by decide +kernel) (by decide +kernel) (by decide +kernel) (by decide +kernel) rfl (by (try simp only [ev_sum, ev_nv_cat]); first | done | rfl) ?_
              intro _ s131 _
              show ev_w _ _ _ _ _ [] _ _ _ _
              refine ev_r_goto (pc := 225) (o := 292) (t := 517) (by decide +kernel) (by decide +kernel) ?_
              exact hK517 x19 hx19 x21 hx21 s131 _ (by exact e61) (by exact e62) (by exact e63) (by exact e64) (by exact e65)
          · intro K212 hK212
            refine ev_r_icmp (pc := 149) (q := .ne) (o := 63) (t := 212) (c := x19 ≠ 1) (by decide +kernel) (ev_k_ne hx19 (by decide)) (by decide +kernel) ?_ ?_
            · intro c132
              exact hK212  s59 _ (by exact e53) (by exact e54) (by exact e55) (by exact e56) (by exact e57) (by exact e58)
            · intro c132
              refine ev_r_aload_n (pc := 152) (k := 0) (v := .ref 621) trivial (by decide +kernel) (by exact e53) ?_
              refine ev_r_getC (pc := 153) (y := 19) (ci := 13) (f := 6) (fin := 1) (k' := 625) (by decide +kernel) (by decide +kernel) (by exact ev_ob_621) rfl rfl ?_
              refine ev_r_iload (pc := 156) (k := 4) (v := Int32.ofInt x21) (by decide +kernel) (by exact e57) ?_
              refine ev_r_iald (pc := 158) hx21 (by decide +kernel) (by exact ev_ab_625) ?_
              intro x133 hx133
              refine ev_r_bipush (pc := 159) (k := 8) (by decide +kernel) (by decide +kernel) ?_
              refine ev_r_icmp (pc := 161) (q := .ne) (o := 51) (t := 212) (c := x133 ≠ 8) (by decide +kernel) (ev_k_ne hx133 (by decide)) (by decide +kernel) ?_ ?_
              · intro c134
                exact hK212  s59 _ (by exact e53) (by exact e54) (by exact e55) (by exact e56) (by exact e57) (by exact e58)
              · intro c134
                refine ev_r_aload_n (pc := 164) (k := 0) (v := .ref 621) trivial (by decide +kernel) (by exact e53) ?_
                refine ev_r_iload_n (pc := 165) (k := 1) (v := Int32.ofInt a0) (by decide +kernel) (by exact e54) ?_
                refine ev_r_iconst (pc := 166) (k := 4) (by decide +kernel) ?_
                refine ev_r_iconst (pc := 167) (k := 2) (by decide +kernel) ?_
                refine ev_r_aload_n (pc := 168) (k := 0) (v := .ref 621) trivial (by decide +kernel) (by exact e53) ?_
                refine ev_r_getC (pc := 169) (y := 28) (ci := 13) (f := 9) (fin := 1) (k' := 628) (by decide +kernel) (by decide +kernel) (by exact ev_ob_621) rfl rfl ?_
                refine ev_r_iload (pc := 172) (k := 4) (v := Int32.ofInt x21) (by decide +kernel) (by exact e57) ?_
                refine ev_r_iald (pc := 174) hx21 (by decide +kernel) (by exact ev_ab_628) ?_
                intro x135 hx135
                refine ev_r_imul (pc := 175) (by decide +kernel) ?_
                intro x136 hx136
                refine ev_r_iconst (pc := 176) (k := 0) (by decide +kernel) ?_
                refine ev_r_virt (pc := 177) (y := 682) (mi := 309) (na := 4) (k := 621) (as := [.int (Int32.ofInt a0), .int (Int32.ofInt 4), .int (Int32.ofInt x136), .int (Int32.ofInt 0)]) (rest := []) (encc := ev_oI) (Q := ev_rng) (fun x S1 h => jt_309 d (by omega) Q a0 4 x136 0 ha0 (by decide) hx136 (by decide) s59 x S1 h) (by exact ev_ob_621) (by decide +kernel) (by decide +kernel) (by decide +kernel) (by decide +kernel) rfl (by (try simp only [ev_sum, ev_nv_cat]); first | done | rfl) ?_
                intro x138 s137 hx138
                show ev_w _ _ _ _ _ [.int (Int32.ofInt x138)] _ _ _ _
                refine ev_r_istore (pc := 180) (k := 6) (by decide +kernel) (by decide +kernel) rfl ?_
                refine ev_r_aload_n (pc := 182) (k := 0) (v := .ref 621) trivial (by decide +kernel) (by exact (ev_l1 e53 (by decide) (by decide))) ?_
                refine ev_r_bipush (pc := 183) (k := 8) (by decide +kernel) (by decide +kernel) ?_
                refine ev_r_iload (pc := 185) (k := 4) (v := Int32.ofInt x21) (by decide +kernel) (by exact (ev_l1 e57 (by decide) (by decide))) ?_
                refine ev_r_iconst (pc := 187) (k := 2) (by decide +kernel) ?_
                refine ev_r_aload_n (pc := 188) (k := 0) (v := .ref 621) trivial (by decide +kernel) (by exact (ev_l1 e53 (by decide) (by decide))) ?_
                refine ev_r_getC (pc := 189) (y := 28) (ci := 13) (f := 9) (fin := 1) (k' := 628) (by decide +kernel) (by decide +kernel) (by exact ev_ob_621) rfl rfl ?_
                refine ev_r_iload (pc := 192) (k := 4) (v := Int32.ofInt x21) (by decide +kernel) (by exact (ev_l1 e57 (by decide) (by decide))) ?_
                refine ev_r_iald (pc := 194) hx21 (by decide +kernel) (by exact ev_ab_628) ?_
                intro x139 hx139
                refine ev_r_imul (pc := 195) (by decide +kernel) ?_
                intro x140 hx140
                refine ev_r_iconst (pc := 196) (k := 1) (by decide +kernel) ?_
                refine ev_r_iadd (pc := 197) (by decide +kernel) ?_
                intro x141 hx141
                refine ev_r_virt (pc := 198) (y := 679) (mi := 310) (na := 3) (k := 621) (as := [.int (Int32.ofInt 8), .int (Int32.ofInt x21), .int (Int32.ofInt x141)]) (rest := []) (encc := ev_oU) (Q := ev_PU) (fun x S1 h => jt_310 d (by omega) Q 8 x21 x141 (by decide) hx21 hx141 s137 x S1 h) (by exact ev_ob_621) (by decide +kernel) (by decide +kernel) (by decide +kernel) (by decide +kernel) rfl (by (try simp only [ev_sum, ev_nv_cat]); first | done | rfl) ?_
                intro _ s142 _
                show ev_w _ _ _ _ _ [] _ _ _ _
                refine ev_r_aload_n (pc := 201) (k := 0) (v := .ref 621) trivial (by decide +kernel) (by exact (ev_l1 e53 (by decide) (by decide))) ?_
                refine ev_r_iconst (pc := 202) (k := 2) (by decide +kernel) ?_
                refine ev_r_iload (pc := 203) (k := 4) (v := Int32.ofInt x21) (by decide +kernel) (by exact (ev_l1 e57 (by decide) (by decide))) ?_
                refine ev_r_iconst (pc := 205) (k := 0) (by decide +kernel) ?_
                refine ev_r_virt (pc := 206) (y := 679) (mi := 310) (na := 3) (k := 621) (as := [.int (Int32.ofInt 2), .int (Int32.ofInt x21), .int (Int32.ofInt 0)]) (rest := []) (encc := ev_oU) (Q := ev_PU) (fun x S1 h => jt_310 d (by omega) Q 2 x21 0 (by decide) hx21 (by decide) s142 x S1 h) (by exact ev_ob_621) (by decide +kernel) (by decide +kernel) (by decide +kernel) (by decide +kernel) rfl (by (try simp only [ev_sum, ev_nv_cat]); first | done | rfl) ?_
                intro _ s143 _
                show ev_w _ _ _ _ _ [] _ _ _ _
                refine ev_r_goto (pc := 209) (o := 308) (t := 517) (by decide +kernel) (by decide +kernel) ?_
                exact hK517 x19 hx19 x21 hx21 s143 _ (by exact (ev_l1 e53 (by decide) (by decide))) (by exact (ev_l1 e54 (by decide) (by decide))) (by exact (ev_l1 e55 (by decide) (by decide))) (by exact (ev_l1 e56 (by decide) (by decide))) (by exact (ev_l1 e57 (by decide) (by decide)))
        · intro K147 hK147
          refine ev_r_icmp (pc := 104) (q := .ne) (o := 43) (t := 147) (c := x19 ≠ 1) (by decide +kernel) (ev_k_ne hx19 (by decide)) (by decide +kernel) ?_ ?_
          · intro c144
            exact hK147  s17 _ (by exact (ev_l1 (ev_l1 (ev_l1 e6 (by decide) (by decide)) (by decide) (by decide)) (by decide) (by decide))) (by exact (ev_l1 (ev_l1 (ev_l1 e7 (by decide) (by decide)) (by decide) (by decide)) (by decide) (by decide))) (by exact (ev_l1 (ev_l1 (ev_lk_st1 e8 (by decide) rfl) (by decide) (by decide)) (by decide) (by decide))) (by exact (ev_l1 (ev_lk_st1 ev_lk_st1_self (by decide) rfl) (by decide) (by decide))) (by exact (ev_lk_st1 ev_lk_st1_self (by decide) rfl)) (by exact ev_lk_st1_self)
          · intro c144
            refine ev_r_aload_n (pc := 107) (k := 0) (v := .ref 621) trivial (by decide +kernel) (by exact (ev_l1 (ev_l1 (ev_l1 e6 (by decide) (by decide)) (by decide) (by decide)) (by decide) (by decide))) ?_
            refine ev_r_getC (pc := 108) (y := 19) (ci := 13) (f := 6) (fin := 1) (k' := 625) (by decide +kernel) (by decide +kernel) (by exact ev_ob_621) rfl rfl ?_
            refine ev_r_iload (pc := 111) (k := 4) (v := Int32.ofInt x21) (by decide +kernel) (by exact (ev_lk_st1 ev_lk_st1_self (by decide) rfl)) ?_
            refine ev_r_iald (pc := 113) hx21 (by decide +kernel) (by exact ev_ab_625) ?_
            intro x145 hx145
            refine ev_r_bipush (pc := 114) (k := 7) (by decide +kernel) (by decide +kernel) ?_
            refine ev_r_icmp (pc := 116) (q := .ge) (o := 31) (t := 147) (c := 7 ≤ x145) (by decide +kernel) (ev_k_ge hx145 (by decide)) (by decide +kernel) ?_ ?_
            · intro c146
              exact hK147  s17 _ (by exact (ev_l1 (ev_l1 (ev_l1 e6 (by decide) (by decide)) (by decide) (by decide)) (by decide) (by decide))) (by exact (ev_l1 (ev_l1 (ev_l1 e7 (by decide) (by decide)) (by decide) (by decide)) (by decide) (by decide))) (by exact (ev_l1 (ev_l1 (ev_lk_st1 e8 (by decide) rfl) (by decide) (by decide)) (by decide) (by decide))) (by exact (ev_l1 (ev_lk_st1 ev_lk_st1_self (by decide) rfl) (by decide) (by decide))) (by exact (ev_lk_st1 ev_lk_st1_self (by decide) rfl)) (by exact ev_lk_st1_self)
            · intro c146
              refine ev_r_aload_n (pc := 119) (k := 0) (v := .ref 621) trivial (by decide +kernel) (by exact (ev_l1 (ev_l1 (ev_l1 e6 (by decide) (by decide)) (by decide) (by decide)) (by decide) (by decide))) ?_
              refine ev_r_iload_n (pc := 120) (k := 1) (v := Int32.ofInt a0) (by decide +kernel) (by exact (ev_l1 (ev_l1 (ev_l1 e7 (by decide) (by decide)) (by decide) (by decide)) (by decide) (by decide))) ?_
              refine ev_r_aload_n (pc := 121) (k := 0) (v := .ref 621) trivial (by decide +kernel) (by exact (ev_l1 (ev_l1 (ev_l1 e6 (by decide) (by decide)) (by decide) (by decide)) (by decide) (by decide))) ?_
              refine ev_r_getC (pc := 122) (y := 19) (ci := 13) (f := 6) (fin := 1) (k' := 625) (by decide +kernel) (by decide +kernel) (by exact ev_ob_621) rfl rfl ?_
              refine ev_r_iload (pc := 125) (k := 4) (v := Int32.ofInt x21) (by decide +kernel) (by exact (ev_lk_st1 ev_lk_st1_self (by decide) rfl)) ?_
              refine ev_r_iald (pc := 127) hx21 (by decide +kernel) (by exact ev_ab_625) ?_
              intro x147 hx147
              refine ev_r_jn (Q := fun K => ∀ (x149 : Int) (hx149 : ev_rng x149), ∀ (x148 : Int) (hx148 : ev_rng x148), ∀ (s156 : ev_St) (w150 : List (Nat × Value)), ev_lk w150 0 = some (.ref 621) → ev_lk w150 1 = some (.int (Int32.ofInt a0)) → ev_lk w150 2 = some (.int (Int32.ofInt x4)) → ev_lk w150 3 = some (.int (Int32.ofInt x19)) → ev_lk w150 4 = some (.int (Int32.ofInt x21)) → ev_w none (ev_Mof 313) d 136 w150 [.int (Int32.ofInt x149), .int (Int32.ofInt x148), .ref 621] s156 (K x149 x148 s156) ev_eU ev_PU) ?_ ?_
              · intro x149 hx149 x148 hx148 s156 w150 e151 e152 e153 e154 e155
                refine ev_r_iload (pc := 136) (k := 4) (v := Int32.ofInt x21) (by decide +kernel) (by exact e155) ?_
                refine ev_r_iconst (pc := 138) (k := 0) (by decide +kernel) ?_
                refine ev_r_virt (pc := 139) (y := 682) (mi := 309) (na := 4) (k := 621) (as := [.int (Int32.ofInt x148), .int (Int32.ofInt x149), .int (Int32.ofInt x21), .int (Int32.ofInt 0)]) (rest := []) (encc := ev_oI) (Q := ev_rng) (fun x S1 h => jt_309 d (by omega) Q x148 x149 x21 0 hx148 hx149 hx21 (by decide) s156 x S1 h) (by exact ev_ob_621) (by decide +kernel) (by decide +kernel) (by decide +kernel) (by decide +kernel) rfl (by (try simp only [ev_sum, ev_nv_cat]); first | done | rfl) ?_
                intro x158 s157 hx158
                show ev_w _ _ _ _ _ [.int (Int32.ofInt x158)] _ _ _ _
                refine ev_r_istore (pc := 142) (k := 6) (by decide +kernel) (by decide +kernel) rfl ?_
                refine ev_r_goto (pc := 144) (o := 373) (t := 517) (by decide +kernel) (by decide +kernel) ?_
                exact hK517 x19 hx19 x21 hx21 s157 _ (by exact (ev_l1 e151 (by decide) (by decide))) (by exact (ev_l1 e152 (by decide) (by decide))) (by exact (ev_l1 e153 (by decide) (by decide))) (by exact (ev_l1 e154 (by decide) (by decide))) (by exact (ev_l1 e155 (by decide) (by decide)))
              · intro K136 hK136
                refine ev_r_if (pc := 128) (q := .ne) (o := 7) (t := 135) (c := x147 ≠ 0) (by decide +kernel) (ev_k_ne hx147 ev_rng0) (by decide +kernel) ?_ ?_
                · intro c159
                  refine ev_r_iconst (pc := 135) (k := 1) (by decide +kernel) ?_
                  exact hK136 1 (by decide) a0 ha0 s17 _ (by exact (ev_l1 (ev_l1 (ev_l1 e6 (by decide) (by decide)) (by decide) (by decide)) (by decide) (by decide))) (by exact (ev_l1 (ev_l1 (ev_l1 e7 (by decide) (by decide)) (by decide) (by decide)) (by decide) (by decide))) (by exact (ev_l1 (ev_l1 (ev_lk_st1 e8 (by decide) rfl) (by decide) (by decide)) (by decide) (by decide))) (by exact (ev_l1 (ev_lk_st1 ev_lk_st1_self (by decide) rfl) (by decide) (by decide))) (by exact (ev_lk_st1 ev_lk_st1_self (by decide) rfl))
                · intro c159
                  refine ev_r_iconst (pc := 131) (k := 0) (by decide +kernel) ?_
                  refine ev_r_goto (pc := 132) (o := 4) (t := 136) (by decide +kernel) (by decide +kernel) ?_
                  exact hK136 0 (by decide) a0 ha0 s17 _ (by exact (ev_l1 (ev_l1 (ev_l1 e6 (by decide) (by decide)) (by decide) (by decide)) (by decide) (by decide))) (by exact (ev_l1 (ev_l1 (ev_l1 e7 (by decide) (by decide)) (by decide) (by decide)) (by decide) (by decide))) (by exact (ev_l1 (ev_l1 (ev_lk_st1 e8 (by decide) rfl) (by decide) (by decide)) (by decide) (by decide))) (by exact (ev_l1 (ev_lk_st1 ev_lk_st1_self (by decide) rfl) (by decide) (by decide))) (by exact (ev_lk_st1 ev_lk_st1_self (by decide) rfl))
      · intro c51
        refine ev_r_aload_n (pc := 76) (k := 0) (v := .ref 621) trivial (by decide +kernel) (by exact (ev_l1 (ev_l1 (ev_l1 e6 (by decide) (by decide)) (by decide) (by decide)) (by decide) (by decide))) ?_
        refine ev_r_aload_n (pc := 77) (k := 0) (v := .ref 621) trivial (by decide +kernel) (by exact (ev_l1 (ev_l1 (ev_l1 e6 (by decide) (by decide)) (by decide) (by decide)) (by decide) (by decide))) ?_
        refine ev_r_getC (pc := 78) (y := 34) (ci := 13) (f := 11) (fin := 1) (k' := 630) (by decide +kernel) (by decide +kernel) (by exact ev_ob_621) rfl rfl ?_
        refine ev_r_iload (pc := 81) (k := 4) (v := Int32.ofInt x21) (by decide +kernel) (by exact (ev_lk_st1 ev_lk_st1_self (by decide) rfl)) ?_
        refine ev_r_iald (pc := 83) hx21 (by decide +kernel) (by exact ev_ab_630) ?_
        intro x160 hx160
        refine ev_r_iconst (pc := 84) (k := -1) (by decide +kernel) ?_
        refine ev_r_jn (Q := fun K => ∀ (x161 : Int) (hx161 : ev_rng x161), ∀ (s168 : ev_St) (w162 : List (Nat × Value)), ev_lk w162 0 = some (.ref 621) → ev_lk w162 1 = some (.int (Int32.ofInt a0)) → ev_lk w162 2 = some (.int (Int32.ofInt x4)) → ev_lk w162 3 = some (.int (Int32.ofInt x19)) → ev_lk w162 4 = some (.int (Int32.ofInt x21)) → ev_w none (ev_Mof 313) d 93 w162 [.int (Int32.ofInt x161), .ref 621] s168 (K x161 s168) ev_eU ev_PU) ?_ ?_
        · intro x161 hx161 s168 w162 e163 e164 e165 e166 e167
          refine ev_r_iload (pc := 93) (k := 4) (v := Int32.ofInt x21) (by decide +kernel) (by exact e167) ?_
          refine ev_r_iconst (pc := 95) (k := 0) (by decide +kernel) ?_
          refine ev_r_virt (pc := 96) (y := 679) (mi := 310) (na := 3) (k := 621) (as := [.int (Int32.ofInt x161), .int (Int32.ofInt x21), .int (Int32.ofInt 0)]) (rest := []) (encc := ev_oU) (Q := ev_PU) (fun x S1 h => jt_310 d (by omega) Q x161 x21 0 hx161 hx21 (by decide) s168 x S1 h) (by exact ev_ob_621) (by decide +kernel) (by decide +kernel) (by decide +kernel) (by decide +kernel) rfl (by (try simp only [ev_sum, ev_nv_cat]); first | done | rfl) ?_
          intro _ s169 _
          show ev_w _ _ _ _ _ [] _ _ _ _
          refine ev_r_goto (pc := 99) (o := 418) (t := 517) (by decide +kernel) (by decide +kernel) ?_
          exact hK517 x19 hx19 x21 hx21 s169 _ (by exact e163) (by exact e164) (by exact e165) (by exact e166) (by exact e167)
        · intro K93 hK93
          refine ev_r_icmp (pc := 85) (q := .ne) (o := 7) (t := 92) (c := x160 ≠ (-1)) (by decide +kernel) (ev_k_ne hx160 (by decide)) (by decide +kernel) ?_ ?_
          · intro c170
            refine ev_r_iconst (pc := 92) (k := 3) (by decide +kernel) ?_
            exact hK93 3 (by decide) s17 _ (by exact (ev_l1 (ev_l1 (ev_l1 e6 (by decide) (by decide)) (by decide) (by decide)) (by decide) (by decide))) (by exact (ev_l1 (ev_l1 (ev_l1 e7 (by decide) (by decide)) (by decide) (by decide)) (by decide) (by decide))) (by exact (ev_l1 (ev_l1 (ev_lk_st1 e8 (by decide) rfl) (by decide) (by decide)) (by decide) (by decide))) (by exact (ev_l1 (ev_lk_st1 ev_lk_st1_self (by decide) rfl) (by decide) (by decide))) (by exact (ev_lk_st1 ev_lk_st1_self (by decide) rfl))
          · intro c170
            refine ev_r_iconst (pc := 88) (k := 1) (by decide +kernel) ?_
            refine ev_r_goto (pc := 89) (o := 4) (t := 93) (by decide +kernel) (by decide +kernel) ?_
            exact hK93 1 (by decide) s17 _ (by exact (ev_l1 (ev_l1 (ev_l1 e6 (by decide) (by decide)) (by decide) (by decide)) (by decide) (by decide))) (by exact (ev_l1 (ev_l1 (ev_l1 e7 (by decide) (by decide)) (by decide) (by decide)) (by decide) (by decide))) (by exact (ev_l1 (ev_l1 (ev_lk_st1 e8 (by decide) rfl) (by decide) (by decide)) (by decide) (by decide))) (by exact (ev_l1 (ev_lk_st1 ev_lk_st1_self (by decide) rfl) (by decide) (by decide))) (by exact (ev_lk_st1 ev_lk_st1_self (by decide) rfl))
theorem jlt_313_23 (d : Nat) (hd : 3 ≤ d + 1) (Q : Nat) (a0 : Int) (ha0 : ev_rng a0)   : ∀ q : Nat, ∀ (x4 : Int) (hx4 : ev_rng x4), ∀ (s9 : ev_St) (w5 : List (Nat × Value)), ev_lk w5 0 = some (.ref 621) → ev_lk w5 1 = some (.int (Int32.ofInt a0)) → ev_lk w5 2 = some (.int (Int32.ofInt x4)) → ev_w none (ev_Mof 313) d 23 w5 [] s9 (jl_313_23 Q a0  q x4 s9) ev_eU ev_PU := by
  intro q
  induction q with
  | zero =>
    intro x4 hx4 s9 w5 e6 e7 e8
    exact ev_w_none
  | succ q ih => exact jbt_313_23 d hd Q a0 ha0   _ ih
/-- MendBenchModel.writes(I)V -/
def jm_313 (Q : Nat) (a0 : Int) (S : ev_St) : Option ((Unit) × ev_St) := ev_ck (320 * a0) fun x1 => ev_b (ev_pI S 621 54 0) fun s2 => ev_b (ev_pI s2 621 59 0) fun s3 => ev_bd (jm_310 Q 2 x1 0 s3) fun _ s171 => jl_313_23 Q a0  Q x1 s171
theorem jt_313 (d : Nat) (hd : 3 ≤ d) (Q : Nat) (a0 : Int) (ha0 : ev_rng a0) (S : ev_St) (x : Unit) (S' : ev_St) (hJ : jm_313 Q a0 S = some (x, S')) : ev_Ref d 313 [.ref 621, .int (Int32.ofInt a0)] S (ev_eU x) S' (ev_PU x) := by
  obtain ⟨d, rfl⟩ : ∃ e, d = e + 1 := ⟨d - 1, by omega⟩
  refine ev_ref_of (P := ev_PU) (lv := [(0, .ref 621), (1, .int (Int32.ofInt a0))]) (by decide +kernel) (by (try simp only [ev_sum, ev_nv_cat]); first | done | rfl) (by (try simp only [lv_args, ev_nv_cat]); first | done | rfl) ?_ x S' hJ
  unfold jm_313
  refine ev_r_sipush (pc := 0) (k := 320) (by decide +kernel) (by decide +kernel) ?_
  refine ev_r_iload_n (pc := 3) (k := 1) (v := Int32.ofInt a0) (by decide +kernel) (by rfl) ?_
  refine ev_r_imul (pc := 4) (by decide +kernel) ?_
  intro x1 hx1
  refine ev_r_istore_n (pc := 5) (k := 2) (by decide +kernel) (by decide +kernel) rfl ?_
  refine ev_r_aload_n (pc := 6) (k := 0) (v := .ref 621) trivial (by decide +kernel) (by exact (ev_l1 (by rfl) (by decide) (by decide))) ?_
  refine ev_r_iconst (pc := 7) (k := 0) (by decide +kernel) ?_
  refine ev_r_putI (pc := 8) (y := 673) (ci := 13) (f := 54) (by decide) (by decide +kernel) (by decide +kernel) (by exact ev_ob_621) rfl rfl ?_
  intro s2
  refine ev_r_aload_n (pc := 11) (k := 0) (v := .ref 621) trivial (by decide +kernel) (by exact (ev_l1 (by rfl) (by decide) (by decide))) ?_
  refine ev_r_iconst (pc := 12) (k := 0) (by decide +kernel) ?_
  refine ev_r_putI (pc := 13) (y := 676) (ci := 13) (f := 59) (by decide) (by decide +kernel) (by decide +kernel) (by exact ev_ob_621) rfl rfl ?_
  intro s3
  refine ev_r_aload_n (pc := 16) (k := 0) (v := .ref 621) trivial (by decide +kernel) (by exact (ev_l1 (by rfl) (by decide) (by decide))) ?_
  refine ev_r_iconst (pc := 17) (k := 2) (by decide +kernel) ?_
  refine ev_r_iload_n (pc := 18) (k := 2) (v := Int32.ofInt x1) (by decide +kernel) (by exact ev_lk_st1_self) ?_
  refine ev_r_iconst (pc := 19) (k := 0) (by decide +kernel) ?_
  refine ev_r_virt (pc := 20) (y := 679) (mi := 310) (na := 3) (k := 621) (as := [.int (Int32.ofInt 2), .int (Int32.ofInt x1), .int (Int32.ofInt 0)]) (rest := []) (encc := ev_oU) (Q := ev_PU) (fun x S1 h => jt_310 d (by omega) Q 2 x1 0 (by decide) hx1 (by decide) s3 x S1 h) (by exact ev_ob_621) (by decide +kernel) (by decide +kernel) (by decide +kernel) (by decide +kernel) rfl (by (try simp only [ev_sum, ev_nv_cat]); first | done | rfl) ?_
  intro _ s171 _
  show ev_w _ _ _ _ _ [] _ _ _ _
  exact jlt_313_23 d hd Q a0 ha0   Q x1 hx1 s171 _ (by exact (ev_l1 (by rfl) (by decide) (by decide))) (by exact (ev_lk_st1 (by rfl) (by decide) rfl)) (by exact ev_lk_st1_self)
