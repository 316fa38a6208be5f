/-! METHODS as functions, laid by decomp.py -/
theorem ev_ab_636 : ev_isAb 636 1 .int = true := (by decide +kernel)
theorem ev_ab_637 : ev_isAb 637 1 .int = true := (by decide +kernel)
theorem ev_ab_638 : ev_isAb 638 1 .int = true := (by decide +kernel)
theorem ev_ab_640 : ev_isAb 640 1 .int = true := (by decide +kernel)
theorem ev_ab_642 : ev_isAb 642 1 .int = true := (by decide +kernel)
theorem ev_ab_641 : ev_isAb 641 1 .int = true := (by decide +kernel)
theorem ev_ab_643 : ev_isAb 643 1 .int = true := (by decide +kernel)
/-- MendBenchModel.repeats()V -/
def jm_255 (Q : Nat)  (S : ev_St) : Option ((Unit) × ev_St) := ev_bd (jm_233 Q 0 S) fun x2 s1 => ev_bd (jm_234 Q 1 s1) fun _ s3 => ev_jn (fun (x4 : Int) (x5 : Int) (s9 : ev_St) => ev_jn (fun (x10 : Int) (x11 : Int) (s16 : ev_St) => ev_jn (fun (x17 : Int) (x18 : Int) (s23 : ev_St) => ev_b (s23.1 621 39) fun x24 => if x24 ≠ (-1) then (ev_bd (jm_236 Q  s23) fun _ s26 => ev_bd (jm_232 Q  s26) fun x28 s27 => ev_b (s27.1 621 39) fun x29 => ev_ck (x28 + x29) fun x30 => ev_bd (jm_233 Q 0 s27) fun x32 s31 => ev_jn (fun (x33 : Int) (x34 : Int) (x37 : Int) (x36 : Int) (r35 : Nat) (s44 : ev_St) => ev_if ((0 : Int) ≤ x36 ∧ x36 < (ev_aln r35 : Int)) (ev_b (ev_pI s44 r35 (Int.toNat x36) x37) fun s45 => ev_if ((0 : Int) ≤ x33 ∧ x33 < (ev_aln 631 : Int)) (ev_b (ev_pI s45 631 (Int.toNat x33) x17) fun s46 => ev_if ((0 : Int) ≤ x33 ∧ x33 < (ev_aln 632 : Int)) (ev_b (ev_pI s46 632 (Int.toNat x33) x18) fun s47 => ev_jn (fun (x48 : Int) (s51 : ev_St) => ev_bd (jm_234 Q x48 s51) fun _ s52 => ev_b (ev_pI s52 621 39 ((-1))) fun s53 => some ((), s53)) fun K260 => ev_jn (fun  (s56 : ev_St) => K260 1 s56) fun K255 => if x34 = 63 then (K255  s47) else (if x34 ≠ 43 then (K260 0 s47) else (K255  s47)))))) fun K223 => if x32 ≠ 63 then (if x32 ≠ 43 then (K223 x30 x32 0 x30 630 s31) else (K223 x30 x32 2 x30 630 s31)) else (K223 x30 x32 1 x30 630 s31)) else (ev_b (ev_pI s23 621 25 1) fun s61 => some ((), s61))) fun K158 => if x4 ≠ 123 then (K158 x10 x11 s16) else (ev_bd (jm_254 Q  s16) fun x64 s63 => ev_b (s63.1 621 25) fun x65 => ev_jn (fun (x66 : Int) (x67 : Int) (x68 : Int) (s73 : ev_St) => ev_if (ev_bl x68) (ev_b (ev_pI s73 621 25 x68) fun s74 => ev_bd (jm_233 Q 0 s74) fun x77 s76 => ev_jn (fun (x78 : Int) (s83 : ev_St) => ev_b (s83.1 621 25) fun x84 => ev_jn (fun (x85 : Int) (s90 : ev_St) => ev_if (ev_bl x85) (ev_b (ev_pI s90 621 25 x85) fun s91 => ev_bd (jm_234 Q 1 s91) fun _ s93 => K158 x66 x78 s93)) fun K150 => ev_jn (fun  (s98 : ev_St) => K150 1 s98) fun K145 => if x84 ≠ 0 then (K145  s83) else (ev_bd (jm_233 Q 0 s83) fun x101 s100 => if x101 = 125 then (K150 0 s100) else (K145  s100))) fun K127 => if x77 ≠ 44 then (K127 x67 s76) else (ev_bd (jm_234 Q 1 s76) fun _ s104 => ev_bd (jm_233 Q 0 s104) fun x106 s105 => if x106 = 125 then (K127 ((-1)) s105) else (ev_bd (jm_254 Q  s105) fun x109 s108 => ev_b (s108.1 621 25) fun x110 => ev_jn (fun (x111 : Int) (x112 : Int) (s117 : ev_St) => ev_if (ev_bl x112) (ev_b (ev_pI s117 621 25 x112) fun s118 => K127 x111 s118)) fun K124 => ev_jn (fun (x120 : Int) (s125 : ev_St) => K124 x120 1 s125) fun K119 => if x110 ≠ 0 then (K119 x109 s108) else (if x109 = (-1) then (K119 x109 s108) else (if x66 ≤ x109 then (K124 x109 0 s108) else (K119 x109 s108))))))) fun K66 => ev_jn (fun (x129 : Int) (x130 : Int) (s135 : ev_St) => K66 x129 x130 1 s135) fun K61 => if x65 ≠ 0 then (K61 x64 x64 s63) else (if x64 ≠ (-1) then (K66 x64 x64 0 s63) else (K61 x64 x64 s63)))) fun K34 => if x4 ≠ 63 then (K34 x5 ((-1)) s9) else (K34 x5 1 s9)) fun K22 => if x2 ≠ 43 then (K22 x2 0 s3) else (K22 x2 1 s3)
theorem jt_255 (d : Nat) (hd : 4 ≤ d) (Q : Nat)   (S : ev_St) (x : Unit) (S' : ev_St) (hJ : jm_255 Q  S = some (x, S')) : ev_Ref d 255 [.ref 621] S (ev_eU x) S' (ev_PU x) := by
  obtain ⟨d, rfl⟩ : ∃ e, d = e + 1 := ⟨d - 1, by omega⟩
  refine ev_ref_of (P := ev_PU) (lv := [(0, .ref 621)]) (by decide +kernel) (by (try simp only [ev_sum, ev_nv_cat]); first | done | rfl) (by (try simp only [lv_args, ev_nv_cat]); first | done | rfl) ?_ x S' hJ
  unfold jm_255
  refine ev_r_aload_n (pc := 0) (k := 0) (v := .ref 621) trivial (by decide +kernel) (by rfl) ?_
  refine ev_r_iconst (pc := 1) (k := 0) (by decide +kernel) ?_
  refine ev_r_virt (pc := 2) (y := 409) (mi := 233) (na := 1) (k := 621) (as := [.int (Int32.ofInt 0)]) (rest := []) (encc := ev_oI) (Q := ev_rng) (fun x S1 h => jt_233 d (by omega) Q 0 (by decide) S x S1 h) (by exact ev_ob_621) (by decide +kernel) (by decide +kernel) (by decide +kernel) (by decide +kernel) rfl (by (try simp only [ev_sum, ev_nv_cat]); first | done | rfl) ?_
  intro x2 s1 hx2
  show ev_w _ _ _ _ _ [.int (Int32.ofInt x2)] _ _ _ _
  refine ev_r_istore_n (pc := 5) (k := 1) (by decide +kernel) (by decide +kernel) rfl ?_
  refine ev_r_aload_n (pc := 6) (k := 0) (v := .ref 621) trivial (by decide +kernel) (by exact (ev_lk_st1 (by rfl) (by decide) rfl)) ?_
  refine ev_r_iconst (pc := 7) (k := 1) (by decide +kernel) ?_
  refine ev_r_virt (pc := 8) (y := 415) (mi := 234) (na := 1) (k := 621) (as := [.int (Int32.ofInt 1)]) (rest := []) (encc := ev_oU) (Q := ev_PU) (fun x S1 h => jt_234 d (by omega) Q 1 (by decide) s1 x S1 h) (by exact ev_ob_621) (by decide +kernel) (by decide +kernel) (by decide +kernel) (by decide +kernel) rfl (by (try simp only [ev_sum, ev_nv_cat]); first | done | rfl) ?_
  intro _ s3 _
  show ev_w _ _ _ _ _ [] _ _ _ _
  refine ev_r_iload_n (pc := 11) (k := 1) (v := Int32.ofInt x2) (by decide +kernel) (by exact ev_lk_st1_self) ?_
  refine ev_r_bipush (pc := 12) (k := 43) (by decide +kernel) (by decide +kernel) ?_
  refine ev_r_jn (Q := fun K => ∀ (x4 : Int) (hx4 : ev_rng x4), ∀ (x5 : Int) (hx5 : ev_rng x5), ∀ (s9 : ev_St) (w6 : List (Nat × Value)), ev_lk w6 0 = some (.ref 621) → ev_lk w6 1 = some (.int (Int32.ofInt x4)) → ev_w none (ev_Mof 255) d 22 w6 [.int (Int32.ofInt x5)] s9 (K x4 x5 s9) ev_eU ev_PU) ?_ ?_
  · intro x4 hx4 x5 hx5 s9 w6 e7 e8
    refine ev_r_istore_n (pc := 22) (k := 2) (by decide +kernel) (by decide +kernel) rfl ?_
    refine ev_r_iload_n (pc := 23) (k := 1) (v := Int32.ofInt x4) (by decide +kernel) (by exact (ev_lk_st1 e8 (by decide) rfl)) ?_
    refine ev_r_bipush (pc := 24) (k := 63) (by decide +kernel) (by decide +kernel) ?_
    refine ev_r_jn (Q := fun K => ∀ (x10 : Int) (hx10 : ev_rng x10), ∀ (x11 : Int) (hx11 : ev_rng x11), ∀ (s16 : ev_St) (w12 : List (Nat × Value)), ev_lk w12 0 = some (.ref 621) → ev_lk w12 1 = some (.int (Int32.ofInt x4)) → ev_lk w12 2 = some (.int (Int32.ofInt x10)) → ev_w none (ev_Mof 255) d 34 w12 [.int (Int32.ofInt x11)] s16 (K x10 x11 s16) ev_eU ev_PU) ?_ ?_
    · intro x10 hx10 x11 hx11 s16 w12 e13 e14 e15
      refine ev_r_istore_n (pc := 34) (k := 3) (by decide +kernel) (by decide +kernel) rfl ?_
      refine ev_r_iload_n (pc := 35) (k := 1) (v := Int32.ofInt x4) (by decide +kernel) (by exact (ev_l1 e14 (by decide) (by decide))) ?_
      refine ev_r_bipush (pc := 36) (k := 123) (by decide +kernel) (by decide +kernel) ?_
      refine ev_r_jn (Q := fun K => ∀ (x17 : Int) (hx17 : ev_rng x17), ∀ (x18 : Int) (hx18 : ev_rng x18), ∀ (s23 : ev_St) (w19 : List (Nat × Value)), ev_lk w19 0 = some (.ref 621) → ev_lk w19 2 = some (.int (Int32.ofInt x17)) → ev_lk w19 3 = some (.int (Int32.ofInt x18)) → ev_w none (ev_Mof 255) d 158 w19 [] s23 (K x17 x18 s23) ev_eU ev_PU) ?_ ?_
      · intro x17 hx17 x18 hx18 s23 w19 e20 e21 e22
        refine ev_r_aload_n (pc := 158) (k := 0) (v := .ref 621) trivial (by decide +kernel) (by exact e20) ?_
        refine ev_r_getI (pc := 159) (y := 375) (ci := 13) (f := 39) (fin := 0) (by decide +kernel) (by decide +kernel) (by exact ev_ob_621) rfl ?_
        intro x24 hx24
        refine ev_r_iconst (pc := 162) (k := -1) (by decide +kernel) ?_
        refine ev_r_icmp (pc := 163) (q := .ne) (o := 9) (t := 172) (c := x24 ≠ (-1)) (by decide +kernel) (ev_k_ne hx24 (by decide)) (by decide +kernel) ?_ ?_
        · intro c25
          refine ev_r_aload_n (pc := 172) (k := 0) (v := .ref 621) trivial (by decide +kernel) (by exact e20) ?_
          refine ev_r_virt (pc := 173) (y := 366) (mi := 236) (na := 0) (k := 621) (as := []) (rest := []) (encc := ev_oU) (Q := ev_PU) (fun x S1 h => jt_236 d (by omega) Q   s23 x S1 h) (by exact ev_ob_621) (by decide +kernel) (by decide +kernel) (by decide +kernel) (by decide +kernel) rfl (by (try simp only [ev_sum, ev_nv_cat]); first | done | rfl) ?_
          intro _ s26 _
          show ev_w _ _ _ _ _ [] _ _ _ _
          refine ev_r_aload_n (pc := 176) (k := 0) (v := .ref 621) trivial (by decide +kernel) (by exact e20) ?_
          refine ev_r_virt (pc := 177) (y := 356) (mi := 232) (na := 0) (k := 621) (as := []) (rest := []) (encc := ev_oI) (Q := ev_rng) (fun x S1 h => jt_232 d (by omega) Q   s26 x S1 h) (by exact ev_ob_621) (by decide +kernel) (by decide +kernel) (by decide +kernel) (by decide +kernel) rfl (by (try simp only [ev_sum, ev_nv_cat]); first | done | rfl) ?_
          intro x28 s27 hx28
          show ev_w _ _ _ _ _ [.int (Int32.ofInt x28)] _ _ _ _
          refine ev_r_aload_n (pc := 180) (k := 0) (v := .ref 621) trivial (by decide +kernel) (by exact e20) ?_
          refine ev_r_getI (pc := 181) (y := 375) (ci := 13) (f := 39) (fin := 0) (by decide +kernel) (by decide +kernel) (by exact ev_ob_621) rfl ?_
          intro x29 hx29
          refine ev_r_iadd (pc := 184) (by decide +kernel) ?_
          intro x30 hx30
          refine ev_r_istore (pc := 185) (k := 4) (by decide +kernel) (by decide +kernel) rfl ?_
          refine ev_r_aload_n (pc := 187) (k := 0) (v := .ref 621) trivial (by decide +kernel) (by exact (ev_l1 e20 (by decide) (by decide))) ?_
          refine ev_r_iconst (pc := 188) (k := 0) (by decide +kernel) ?_
          refine ev_r_virt (pc := 189) (y := 409) (mi := 233) (na := 1) (k := 621) (as := [.int (Int32.ofInt 0)]) (rest := []) (encc := ev_oI) (Q := ev_rng) (fun x S1 h => jt_233 d (by omega) Q 0 (by decide) s27 x S1 h) (by exact ev_ob_621) (by decide +kernel) (by decide +kernel) (by decide +kernel) (by decide +kernel) rfl (by (try simp only [ev_sum, ev_nv_cat]); first | done | rfl) ?_
          intro x32 s31 hx32
          show ev_w _ _ _ _ _ [.int (Int32.ofInt x32)] _ _ _ _
          refine ev_r_istore (pc := 192) (k := 5) (by decide +kernel) (by decide +kernel) rfl ?_
          refine ev_r_aload_n (pc := 194) (k := 0) (v := .ref 621) trivial (by decide +kernel) (by exact (ev_l1 (ev_l1 e20 (by decide) (by decide)) (by decide) (by decide))) ?_
          refine ev_r_getC (pc := 195) (y := 34) (ci := 13) (f := 11) (fin := 1) (k' := 630) (by decide +kernel) (by decide +kernel) (by exact ev_ob_621) rfl rfl ?_
          refine ev_r_iload (pc := 198) (k := 4) (v := Int32.ofInt x30) (by decide +kernel) (by exact (ev_lk_st1 ev_lk_st1_self (by decide) rfl)) ?_
          refine ev_r_iload (pc := 200) (k := 5) (v := Int32.ofInt x32) (by decide +kernel) (by exact ev_lk_st1_self) ?_
          refine ev_r_bipush (pc := 202) (k := 63) (by decide +kernel) (by decide +kernel) ?_
          refine ev_r_jn (Q := fun K => ∀ (x33 : Int) (hx33 : ev_rng x33), ∀ (x34 : Int) (hx34 : ev_rng x34), ∀ (x37 : Int) (hx37 : ev_rng x37), ∀ (x36 : Int) (hx36 : ev_rng x36), ∀ (r35 : Nat) (hr35 : ev_isAb r35 1 .int = true), ∀ (s44 : ev_St) (w38 : List (Nat × Value)), ev_lk w38 0 = some (.ref 621) → ev_lk w38 2 = some (.int (Int32.ofInt x17)) → ev_lk w38 3 = some (.int (Int32.ofInt x18)) → ev_lk w38 4 = some (.int (Int32.ofInt x33)) → ev_lk w38 5 = some (.int (Int32.ofInt x34)) → ev_w none (ev_Mof 255) d 223 w38 [.int (Int32.ofInt x37), .int (Int32.ofInt x36), .ref r35] s44 (K x33 x34 x37 x36 r35 s44) ev_eU ev_PU) ?_ ?_
          · intro x33 hx33 x34 hx34 x37 hx37 x36 hx36 r35 hr35 s44 w38 e39 e40 e41 e42 e43
            refine ev_r_iast (pc := 223) hx37 hx36 (by decide +kernel) (by exact hr35) ?_
            intro s45
            refine ev_r_aload_n (pc := 224) (k := 0) (v := .ref 621) trivial (by decide +kernel) (by exact e39) ?_
            refine ev_r_getC (pc := 225) (y := 37) (ci := 13) (f := 12) (fin := 1) (k' := 631) (by decide +kernel) (by decide +kernel) (by exact ev_ob_621) rfl rfl ?_
            refine ev_r_iload (pc := 228) (k := 4) (v := Int32.ofInt x33) (by decide +kernel) (by exact e42) ?_
            refine ev_r_iload_n (pc := 230) (k := 2) (v := Int32.ofInt x17) (by decide +kernel) (by exact e40) ?_
            refine ev_r_iast (pc := 231) hx17 hx33 (by decide +kernel) (by exact ev_ab_631) ?_
            intro s46
            refine ev_r_aload_n (pc := 232) (k := 0) (v := .ref 621) trivial (by decide +kernel) (by exact e39) ?_
            refine ev_r_getC (pc := 233) (y := 40) (ci := 13) (f := 13) (fin := 1) (k' := 632) (by decide +kernel) (by decide +kernel) (by exact ev_ob_621) rfl rfl ?_
            refine ev_r_iload (pc := 236) (k := 4) (v := Int32.ofInt x33) (by decide +kernel) (by exact e42) ?_
            refine ev_r_iload_n (pc := 238) (k := 3) (v := Int32.ofInt x18) (by decide +kernel) (by exact e41) ?_
            refine ev_r_iast (pc := 239) hx18 hx33 (by decide +kernel) (by exact ev_ab_632) ?_
            intro s47
            refine ev_r_aload_n (pc := 240) (k := 0) (v := .ref 621) trivial (by decide +kernel) (by exact e39) ?_
            refine ev_r_iload (pc := 241) (k := 5) (v := Int32.ofInt x34) (by decide +kernel) (by exact e43) ?_
            refine ev_r_bipush (pc := 243) (k := 63) (by decide +kernel) (by decide +kernel) ?_
            refine ev_r_jn (Q := fun K => ∀ (x48 : Int) (hx48 : ev_rng x48), ∀ (s51 : ev_St) (w49 : List (Nat × Value)), ev_lk w49 0 = some (.ref 621) → ev_w none (ev_Mof 255) d 260 w49 [.int (Int32.ofInt x48), .ref 621] s51 (K x48 s51) ev_eU ev_PU) ?_ ?_
            · intro x48 hx48 s51 w49 e50
              refine ev_r_virt (pc := 260) (y := 415) (mi := 234) (na := 1) (k := 621) (as := [.int (Int32.ofInt x48)]) (rest := []) (encc := ev_oU) (Q := ev_PU) (fun x S1 h => jt_234 d (by omega) Q x48 hx48 s51 x S1 h) (by exact ev_ob_621) (by decide +kernel) (by decide +kernel) (by decide +kernel) (by decide +kernel) rfl (by (try simp only [ev_sum, ev_nv_cat]); first | done | rfl) ?_
              intro _ s52 _
              show ev_w _ _ _ _ _ [] _ _ _ _
              refine ev_r_aload_n (pc := 263) (k := 0) (v := .ref 621) trivial (by decide +kernel) (by exact e50) ?_
              refine ev_r_iconst (pc := 264) (k := -1) (by decide +kernel) ?_
              refine ev_r_putI (pc := 265) (y := 375) (ci := 13) (f := 39) (by decide) (by decide +kernel) (by decide +kernel) (by exact ev_ob_621) rfl rfl ?_
              intro s53
              exact ev_r_return (pc := 268) (x := ()) trivial (by decide +kernel) (by decide +kernel) rfl
            · intro K260 hK260
              refine ev_r_jn (Q := fun K => ∀ (s56 : ev_St) (w54 : List (Nat × Value)), ev_lk w54 0 = some (.ref 621) → ev_w none (ev_Mof 255) d 255 w54 [.ref 621] s56 (K  s56) ev_eU ev_PU) ?_ ?_
              · intro  s56 w54 e55
                refine ev_r_iconst (pc := 255) (k := 1) (by decide +kernel) ?_
                refine ev_r_goto (pc := 256) (o := 4) (t := 260) (by decide +kernel) (by decide +kernel) ?_
                exact hK260 1 (by decide) s56 _ (by exact e55)
              · intro K255 hK255
                refine ev_r_icmp (pc := 245) (q := .eq) (o := 10) (t := 255) (c := x34 = 63) (by decide +kernel) (ev_k_eq hx34 (by decide)) (by decide +kernel) ?_ ?_
                · intro c57
                  exact hK255  s47 _ (by exact e39)
                · intro c57
                  refine ev_r_iload (pc := 248) (k := 5) (v := Int32.ofInt x34) (by decide +kernel) (by exact e43) ?_
                  refine ev_r_bipush (pc := 250) (k := 43) (by decide +kernel) (by decide +kernel) ?_
                  refine ev_r_icmp (pc := 252) (q := .ne) (o := 7) (t := 259) (c := x34 ≠ 43) (by decide +kernel) (ev_k_ne hx34 (by decide)) (by decide +kernel) ?_ ?_
                  · intro c58
                    refine ev_r_iconst (pc := 259) (k := 0) (by decide +kernel) ?_
                    exact hK260 0 (by decide) s47 _ (by exact e39)
                  · intro c58
                    exact hK255  s47 _ (by exact e39)
          · intro K223 hK223
            refine ev_r_icmp (pc := 204) (q := .ne) (o := 7) (t := 211) (c := x32 ≠ 63) (by decide +kernel) (ev_k_ne hx32 (by decide)) (by decide +kernel) ?_ ?_
            · intro c59
              refine ev_r_iload (pc := 211) (k := 5) (v := Int32.ofInt x32) (by decide +kernel) (by exact ev_lk_st1_self) ?_
              refine ev_r_bipush (pc := 213) (k := 43) (by decide +kernel) (by decide +kernel) ?_
              refine ev_r_icmp (pc := 215) (q := .ne) (o := 7) (t := 222) (c := x32 ≠ 43) (by decide +kernel) (ev_k_ne hx32 (by decide)) (by decide +kernel) ?_ ?_
              · intro c60
                refine ev_r_iconst (pc := 222) (k := 0) (by decide +kernel) ?_
                exact hK223 x30 hx30 x32 hx32 0 (by decide) x30 hx30 630 ev_ab_630 s31 _ (by exact (ev_l1 (ev_l1 e20 (by decide) (by decide)) (by decide) (by decide))) (by exact (ev_l1 (ev_l1 e21 (by decide) (by decide)) (by decide) (by decide))) (by exact (ev_l1 (ev_lk_st1 e22 (by decide) rfl) (by decide) (by decide))) (by exact (ev_lk_st1 ev_lk_st1_self (by decide) rfl)) (by exact ev_lk_st1_self)
              · intro c60
                refine ev_r_iconst (pc := 218) (k := 2) (by decide +kernel) ?_
                refine ev_r_goto (pc := 219) (o := 4) (t := 223) (by decide +kernel) (by decide +kernel) ?_
                exact hK223 x30 hx30 x32 hx32 2 (by decide) x30 hx30 630 ev_ab_630 s31 _ (by exact (ev_l1 (ev_l1 e20 (by decide) (by decide)) (by decide) (by decide))) (by exact (ev_l1 (ev_l1 e21 (by decide) (by decide)) (by decide) (by decide))) (by exact (ev_l1 (ev_lk_st1 e22 (by decide) rfl) (by decide) (by decide))) (by exact (ev_lk_st1 ev_lk_st1_self (by decide) rfl)) (by exact ev_lk_st1_self)
            · intro c59
              refine ev_r_iconst (pc := 207) (k := 1) (by decide +kernel) ?_
              refine ev_r_goto (pc := 208) (o := 15) (t := 223) (by decide +kernel) (by decide +kernel) ?_
              exact hK223 x30 hx30 x32 hx32 1 (by decide) x30 hx30 630 ev_ab_630 s31 _ (by exact (ev_l1 (ev_l1 e20 (by decide) (by decide)) (by decide) (by decide))) (by exact (ev_l1 (ev_l1 e21 (by decide) (by decide)) (by decide) (by decide))) (by exact (ev_l1 (ev_lk_st1 e22 (by decide) rfl) (by decide) (by decide))) (by exact (ev_lk_st1 ev_lk_st1_self (by decide) rfl)) (by exact ev_lk_st1_self)
        · intro c25
          refine ev_r_aload_n (pc := 166) (k := 0) (v := .ref 621) trivial (by decide +kernel) (by exact e20) ?_
          refine ev_r_iconst (pc := 167) (k := 1) (by decide +kernel) ?_
          refine ev_r_putI (pc := 168) (y := 352) (ci := 13) (f := 25) (by decide) (by decide +kernel) (by decide +kernel) (by exact ev_ob_621) rfl (ev_fit_bl (by decide : ev_bl 1)) ?_
          intro s61
          exact ev_r_return (pc := 171) (x := ()) trivial (by decide +kernel) (by decide +kernel) rfl
      · intro K158 hK158
        refine ev_r_icmp (pc := 38) (q := .ne) (o := 120) (t := 158) (c := x4 ≠ 123) (by decide +kernel) (ev_k_ne hx4 (by decide)) (by decide +kernel) ?_ ?_
        · intro c62
          exact hK158 x10 hx10 x11 hx11 s16 _ (by exact (ev_l1 e13 (by decide) (by decide))) (by exact (ev_lk_st1 e15 (by decide) rfl)) (by exact ev_lk_st1_self)
        · intro c62
          refine ev_r_aload_n (pc := 41) (k := 0) (v := .ref 621) trivial (by decide +kernel) (by exact (ev_l1 e13 (by decide) (by decide))) ?_
          refine ev_r_virt (pc := 42) (y := 446) (mi := 254) (na := 0) (k := 621) (as := []) (rest := []) (encc := ev_oI) (Q := ev_rng) (fun x S1 h => jt_254 d (by omega) Q   s16 x S1 h) (by exact ev_ob_621) (by decide +kernel) (by decide +kernel) (by decide +kernel) (by decide +kernel) rfl (by (try simp only [ev_sum, ev_nv_cat]); first | done | rfl) ?_
          intro x64 s63 hx64
          show ev_w _ _ _ _ _ [.int (Int32.ofInt x64)] _ _ _ _
          refine ev_r_istore_n (pc := 45) (k := 2) (by decide +kernel) (by decide +kernel) rfl ?_
          refine ev_r_iload_n (pc := 46) (k := 2) (v := Int32.ofInt x64) (by decide +kernel) (by exact ev_lk_st1_self) ?_
          refine ev_r_istore_n (pc := 47) (k := 3) (by decide +kernel) (by decide +kernel) rfl ?_
          refine ev_r_aload_n (pc := 48) (k := 0) (v := .ref 621) trivial (by decide +kernel) (by exact (ev_l1 (ev_l1 (ev_l1 e13 (by decide) (by decide)) (by decide) (by decide)) (by decide) (by decide))) ?_
          refine ev_r_aload_n (pc := 49) (k := 0) (v := .ref 621) trivial (by decide +kernel) (by exact (ev_l1 (ev_l1 (ev_l1 e13 (by decide) (by decide)) (by decide) (by decide)) (by decide) (by decide))) ?_
          refine ev_r_getI (pc := 50) (y := 352) (ci := 13) (f := 25) (fin := 0) (by decide +kernel) (by decide +kernel) (by exact ev_ob_621) rfl ?_
          intro x65 hx65
          refine ev_r_jn (Q := fun K => ∀ (x66 : Int) (hx66 : ev_rng x66), ∀ (x67 : Int) (hx67 : ev_rng x67), ∀ (x68 : Int) (hx68 : ev_rng x68), ∀ (s73 : ev_St) (w69 : List (Nat × Value)), ev_lk w69 0 = some (.ref 621) → ev_lk w69 2 = some (.int (Int32.ofInt x66)) → ev_lk w69 3 = some (.int (Int32.ofInt x67)) → ev_w none (ev_Mof 255) d 66 w69 [.int (Int32.ofInt x68), .ref 621] s73 (K x66 x67 x68 s73) ev_eU ev_PU) ?_ ?_
          · intro x66 hx66 x67 hx67 x68 hx68 s73 w69 e70 e71 e72
            refine ev_r_chk ?_
            intro c75
            refine ev_r_putI (pc := 66) (y := 352) (ci := 13) (f := 25) hx68 (by decide +kernel) (by decide +kernel) (by exact ev_ob_621) rfl (ev_fit_bl c75) ?_
            intro s74
            refine ev_r_aload_n (pc := 69) (k := 0) (v := .ref 621) trivial (by decide +kernel) (by exact e70) ?_
            refine ev_r_iconst (pc := 70) (k := 0) (by decide +kernel) ?_
            refine ev_r_virt (pc := 71) (y := 409) (mi := 233) (na := 1) (k := 621) (as := [.int (Int32.ofInt 0)]) (rest := []) (encc := ev_oI) (Q := ev_rng) (fun x S1 h => jt_233 d (by omega) Q 0 (by decide) s74 x S1 h) (by exact ev_ob_621) (by decide +kernel) (by decide +kernel) (by decide +kernel) (by decide +kernel) rfl (by (try simp only [ev_sum, ev_nv_cat]); first | done | rfl) ?_
            intro x77 s76 hx77
            show ev_w _ _ _ _ _ [.int (Int32.ofInt x77)] _ _ _ _
            refine ev_r_bipush (pc := 74) (k := 44) (by decide +kernel) (by decide +kernel) ?_
            refine ev_r_jn (Q := fun K => ∀ (x78 : Int) (hx78 : ev_rng x78), ∀ (s83 : ev_St) (w79 : List (Nat × Value)), ev_lk w79 0 = some (.ref 621) → ev_lk w79 2 = some (.int (Int32.ofInt x66)) → ev_lk w79 3 = some (.int (Int32.ofInt x78)) → ev_w none (ev_Mof 255) d 127 w79 [] s83 (K x78 s83) ev_eU ev_PU) ?_ ?_
            · intro x78 hx78 s83 w79 e80 e81 e82
              refine ev_r_aload_n (pc := 127) (k := 0) (v := .ref 621) trivial (by decide +kernel) (by exact e80) ?_
              refine ev_r_aload_n (pc := 128) (k := 0) (v := .ref 621) trivial (by decide +kernel) (by exact e80) ?_
              refine ev_r_getI (pc := 129) (y := 352) (ci := 13) (f := 25) (fin := 0) (by decide +kernel) (by decide +kernel) (by exact ev_ob_621) rfl ?_
              intro x84 hx84
              refine ev_r_jn (Q := fun K => ∀ (x85 : Int) (hx85 : ev_rng x85), ∀ (s90 : ev_St) (w86 : List (Nat × Value)), ev_lk w86 0 = some (.ref 621) → ev_lk w86 2 = some (.int (Int32.ofInt x66)) → ev_lk w86 3 = some (.int (Int32.ofInt x78)) → ev_w none (ev_Mof 255) d 150 w86 [.int (Int32.ofInt x85), .ref 621] s90 (K x85 s90) ev_eU ev_PU) ?_ ?_
              · intro x85 hx85 s90 w86 e87 e88 e89
                refine ev_r_chk ?_
                intro c92
                refine ev_r_putI (pc := 150) (y := 352) (ci := 13) (f := 25) hx85 (by decide +kernel) (by decide +kernel) (by exact ev_ob_621) rfl (ev_fit_bl c92) ?_
                intro s91
                refine ev_r_aload_n (pc := 153) (k := 0) (v := .ref 621) trivial (by decide +kernel) (by exact e87) ?_
                refine ev_r_iconst (pc := 154) (k := 1) (by decide +kernel) ?_
                refine ev_r_virt (pc := 155) (y := 415) (mi := 234) (na := 1) (k := 621) (as := [.int (Int32.ofInt 1)]) (rest := []) (encc := ev_oU) (Q := ev_PU) (fun x S1 h => jt_234 d (by omega) Q 1 (by decide) s91 x S1 h) (by exact ev_ob_621) (by decide +kernel) (by decide +kernel) (by decide +kernel) (by decide +kernel) rfl (by (try simp only [ev_sum, ev_nv_cat]); first | done | rfl) ?_
                intro _ s93 _
                show ev_w _ _ _ _ _ [] _ _ _ _
                exact hK158 x66 hx66 x78 hx78 s93 _ (by exact e87) (by exact e88) (by exact e89)
              · intro K150 hK150
                refine ev_r_jn (Q := fun K => ∀ (s98 : ev_St) (w94 : List (Nat × Value)), ev_lk w94 0 = some (.ref 621) → ev_lk w94 2 = some (.int (Int32.ofInt x66)) → ev_lk w94 3 = some (.int (Int32.ofInt x78)) → ev_w none (ev_Mof 255) d 145 w94 [.ref 621] s98 (K  s98) ev_eU ev_PU) ?_ ?_
                · intro  s98 w94 e95 e96 e97
                  refine ev_r_iconst (pc := 145) (k := 1) (by decide +kernel) ?_
                  refine ev_r_goto (pc := 146) (o := 4) (t := 150) (by decide +kernel) (by decide +kernel) ?_
                  exact hK150 1 (by decide) s98 _ (by exact e95) (by exact e96) (by exact e97)
                · intro K145 hK145
                  refine ev_r_if (pc := 132) (q := .ne) (o := 13) (t := 145) (c := x84 ≠ 0) (by decide +kernel) (ev_k_ne hx84 ev_rng0) (by decide +kernel) ?_ ?_
                  · intro c99
                    exact hK145  s83 _ (by exact e80) (by exact e81) (by exact e82)
                  · intro c99
                    refine ev_r_aload_n (pc := 135) (k := 0) (v := .ref 621) trivial (by decide +kernel) (by exact e80) ?_
                    refine ev_r_iconst (pc := 136) (k := 0) (by decide +kernel) ?_
                    refine ev_r_virt (pc := 137) (y := 409) (mi := 233) (na := 1) (k := 621) (as := [.int (Int32.ofInt 0)]) (rest := [.ref 621]) (encc := ev_oI) (Q := ev_rng) (fun x S1 h => jt_233 d (by omega) Q 0 (by decide) s83 x S1 h) (by exact ev_ob_621) (by decide +kernel) (by decide +kernel) (by decide +kernel) (by decide +kernel) rfl (by (try simp only [ev_sum, ev_nv_cat]); first | done | rfl) ?_
                    intro x101 s100 hx101
                    show ev_w _ _ _ _ _ [.int (Int32.ofInt x101), .ref 621] _ _ _ _
                    refine ev_r_bipush (pc := 140) (k := 125) (by decide +kernel) (by decide +kernel) ?_
                    refine ev_r_icmp (pc := 142) (q := .eq) (o := 7) (t := 149) (c := x101 = 125) (by decide +kernel) (ev_k_eq hx101 (by decide)) (by decide +kernel) ?_ ?_
                    · intro c102
                      refine ev_r_iconst (pc := 149) (k := 0) (by decide +kernel) ?_
                      exact hK150 0 (by decide) s100 _ (by exact e80) (by exact e81) (by exact e82)
                    · intro c102
                      exact hK145  s100 _ (by exact e80) (by exact e81) (by exact e82)
            · intro K127 hK127
              refine ev_r_icmp (pc := 76) (q := .ne) (o := 51) (t := 127) (c := x77 ≠ 44) (by decide +kernel) (ev_k_ne hx77 (by decide)) (by decide +kernel) ?_ ?_
              · intro c103
                exact hK127 x67 hx67 s76 _ (by exact e70) (by exact e71) (by exact e72)
              · intro c103
                refine ev_r_aload_n (pc := 79) (k := 0) (v := .ref 621) trivial (by decide +kernel) (by exact e70) ?_
                refine ev_r_iconst (pc := 80) (k := 1) (by decide +kernel) ?_
                refine ev_r_virt (pc := 81) (y := 415) (mi := 234) (na := 1) (k := 621) (as := [.int (Int32.ofInt 1)]) (rest := []) (encc := ev_oU) (Q := ev_PU) (fun x S1 h => jt_234 d (by omega) Q 1 (by decide) s76 x S1 h) (by exact ev_ob_621) (by decide +kernel) (by decide +kernel) (by decide +kernel) (by decide +kernel) rfl (by (try simp only [ev_sum, ev_nv_cat]); first | done | rfl) ?_
                intro _ s104 _
                show ev_w _ _ _ _ _ [] _ _ _ _
                refine ev_r_iconst (pc := 84) (k := -1) (by decide +kernel) ?_
                refine ev_r_istore_n (pc := 85) (k := 3) (by decide +kernel) (by decide +kernel) rfl ?_
                refine ev_r_aload_n (pc := 86) (k := 0) (v := .ref 621) trivial (by decide +kernel) (by exact (ev_l1 e70 (by decide) (by decide))) ?_
                refine ev_r_iconst (pc := 87) (k := 0) (by decide +kernel) ?_
                refine ev_r_virt (pc := 88) (y := 409) (mi := 233) (na := 1) (k := 621) (as := [.int (Int32.ofInt 0)]) (rest := []) (encc := ev_oI) (Q := ev_rng) (fun x S1 h => jt_233 d (by omega) Q 0 (by decide) s104 x S1 h) (by exact ev_ob_621) (by decide +kernel) (by decide +kernel) (by decide +kernel) (by decide +kernel) rfl (by (try simp only [ev_sum, ev_nv_cat]); first | done | rfl) ?_
                intro x106 s105 hx106
                show ev_w _ _ _ _ _ [.int (Int32.ofInt x106)] _ _ _ _
                refine ev_r_bipush (pc := 91) (k := 125) (by decide +kernel) (by decide +kernel) ?_
                refine ev_r_icmp (pc := 93) (q := .eq) (o := 34) (t := 127) (c := x106 = 125) (by decide +kernel) (ev_k_eq hx106 (by decide)) (by decide +kernel) ?_ ?_
                · intro c107
                  exact hK127 ((-1)) (by decide) s105 _ (by exact (ev_l1 e70 (by decide) (by decide))) (by exact (ev_lk_st1 e71 (by decide) rfl)) (by exact ev_lk_st1_self)
                · intro c107
                  refine ev_r_aload_n (pc := 96) (k := 0) (v := .ref 621) trivial (by decide +kernel) (by exact (ev_l1 e70 (by decide) (by decide))) ?_
                  refine ev_r_virt (pc := 97) (y := 446) (mi := 254) (na := 0) (k := 621) (as := []) (rest := []) (encc := ev_oI) (Q := ev_rng) (fun x S1 h => jt_254 d (by omega) Q   s105 x S1 h) (by exact ev_ob_621) (by decide +kernel) (by decide +kernel) (by decide +kernel) (by decide +kernel) rfl (by (try simp only [ev_sum, ev_nv_cat]); first | done | rfl) ?_
                  intro x109 s108 hx109
                  show ev_w _ _ _ _ _ [.int (Int32.ofInt x109)] _ _ _ _
                  refine ev_r_istore_n (pc := 100) (k := 3) (by decide +kernel) (by decide +kernel) rfl ?_
                  refine ev_r_aload_n (pc := 101) (k := 0) (v := .ref 621) trivial (by decide +kernel) (by exact (ev_l1 (ev_l1 e70 (by decide) (by decide)) (by decide) (by decide))) ?_
                  refine ev_r_aload_n (pc := 102) (k := 0) (v := .ref 621) trivial (by decide +kernel) (by exact (ev_l1 (ev_l1 e70 (by decide) (by decide)) (by decide) (by decide))) ?_
                  refine ev_r_getI (pc := 103) (y := 352) (ci := 13) (f := 25) (fin := 0) (by decide +kernel) (by decide +kernel) (by exact ev_ob_621) rfl ?_
                  intro x110 hx110
                  refine ev_r_jn (Q := fun K => ∀ (x111 : Int) (hx111 : ev_rng x111), ∀ (x112 : Int) (hx112 : ev_rng x112), ∀ (s117 : ev_St) (w113 : List (Nat × Value)), ev_lk w113 0 = some (.ref 621) → ev_lk w113 2 = some (.int (Int32.ofInt x66)) → ev_lk w113 3 = some (.int (Int32.ofInt x111)) → ev_w none (ev_Mof 255) d 124 w113 [.int (Int32.ofInt x112), .ref 621] s117 (K x111 x112 s117) ev_eU ev_PU) ?_ ?_
                  · intro x111 hx111 x112 hx112 s117 w113 e114 e115 e116
                    refine ev_r_chk ?_
                    intro c119
                    refine ev_r_putI (pc := 124) (y := 352) (ci := 13) (f := 25) hx112 (by decide +kernel) (by decide +kernel) (by exact ev_ob_621) rfl (ev_fit_bl c119) ?_
                    intro s118
                    exact hK127 x111 hx111 s118 _ (by exact e114) (by exact e115) (by exact e116)
                  · intro K124 hK124
                    refine ev_r_jn (Q := fun K => ∀ (x120 : Int) (hx120 : ev_rng x120), ∀ (s125 : ev_St) (w121 : List (Nat × Value)), ev_lk w121 0 = some (.ref 621) → ev_lk w121 2 = some (.int (Int32.ofInt x66)) → ev_lk w121 3 = some (.int (Int32.ofInt x120)) → ev_w none (ev_Mof 255) d 119 w121 [.ref 621] s125 (K x120 s125) ev_eU ev_PU) ?_ ?_
                    · intro x120 hx120 s125 w121 e122 e123 e124
                      refine ev_r_iconst (pc := 119) (k := 1) (by decide +kernel) ?_
                      refine ev_r_goto (pc := 120) (o := 4) (t := 124) (by decide +kernel) (by decide +kernel) ?_
                      exact hK124 x120 hx120 1 (by decide) s125 _ (by exact e122) (by exact e123) (by exact e124)
                    · intro K119 hK119
                      refine ev_r_if (pc := 106) (q := .ne) (o := 13) (t := 119) (c := x110 ≠ 0) (by decide +kernel) (ev_k_ne hx110 ev_rng0) (by decide +kernel) ?_ ?_
                      · intro c126
                        exact hK119 x109 hx109 s108 _ (by exact (ev_l1 (ev_l1 e70 (by decide) (by decide)) (by decide) (by decide))) (by exact (ev_lk_st1 (ev_lk_st1 e71 (by decide) rfl) (by decide) rfl)) (by exact ev_lk_st1_self)
                      · intro c126
                        refine ev_r_iload_n (pc := 109) (k := 3) (v := Int32.ofInt x109) (by decide +kernel) (by exact ev_lk_st1_self) ?_
                        refine ev_r_iconst (pc := 110) (k := -1) (by decide +kernel) ?_
                        refine ev_r_icmp (pc := 111) (q := .eq) (o := 8) (t := 119) (c := x109 = (-1)) (by decide +kernel) (ev_k_eq hx109 (by decide)) (by decide +kernel) ?_ ?_
                        · intro c127
                          exact hK119 x109 hx109 s108 _ (by exact (ev_l1 (ev_l1 e70 (by decide) (by decide)) (by decide) (by decide))) (by exact (ev_lk_st1 (ev_lk_st1 e71 (by decide) rfl) (by decide) rfl)) (by exact ev_lk_st1_self)
                        · intro c127
                          refine ev_r_iload_n (pc := 114) (k := 3) (v := Int32.ofInt x109) (by decide +kernel) (by exact ev_lk_st1_self) ?_
                          refine ev_r_iload_n (pc := 115) (k := 2) (v := Int32.ofInt x66) (by decide +kernel) (by exact (ev_lk_st1 (ev_lk_st1 e71 (by decide) rfl) (by decide) rfl)) ?_
                          refine ev_r_icmp (pc := 116) (q := .ge) (o := 7) (t := 123) (c := x66 ≤ x109) (by decide +kernel) (ev_k_ge hx109 hx66) (by decide +kernel) ?_ ?_
                          · intro c128
                            refine ev_r_iconst (pc := 123) (k := 0) (by decide +kernel) ?_
                            exact hK124 x109 hx109 0 (by decide) s108 _ (by exact (ev_l1 (ev_l1 e70 (by decide) (by decide)) (by decide) (by decide))) (by exact (ev_lk_st1 (ev_lk_st1 e71 (by decide) rfl) (by decide) rfl)) (by exact ev_lk_st1_self)
                          · intro c128
                            exact hK119 x109 hx109 s108 _ (by exact (ev_l1 (ev_l1 e70 (by decide) (by decide)) (by decide) (by decide))) (by exact (ev_lk_st1 (ev_lk_st1 e71 (by decide) rfl) (by decide) rfl)) (by exact ev_lk_st1_self)
          · intro K66 hK66
            refine ev_r_jn (Q := fun K => ∀ (x129 : Int) (hx129 : ev_rng x129), ∀ (x130 : Int) (hx130 : ev_rng x130), ∀ (s135 : ev_St) (w131 : List (Nat × Value)), ev_lk w131 0 = some (.ref 621) → ev_lk w131 2 = some (.int (Int32.ofInt x129)) → ev_lk w131 3 = some (.int (Int32.ofInt x130)) → ev_w none (ev_Mof 255) d 61 w131 [.ref 621] s135 (K x129 x130 s135) ev_eU ev_PU) ?_ ?_
            · intro x129 hx129 x130 hx130 s135 w131 e132 e133 e134
              refine ev_r_iconst (pc := 61) (k := 1) (by decide +kernel) ?_
              refine ev_r_goto (pc := 62) (o := 4) (t := 66) (by decide +kernel) (by decide +kernel) ?_
              exact hK66 x129 hx129 x130 hx130 1 (by decide) s135 _ (by exact e132) (by exact e133) (by exact e134)
            · intro K61 hK61
              refine ev_r_if (pc := 53) (q := .ne) (o := 8) (t := 61) (c := x65 ≠ 0) (by decide +kernel) (ev_k_ne hx65 ev_rng0) (by decide +kernel) ?_ ?_
              · intro c136
                exact hK61 x64 hx64 x64 hx64 s63 _ (by exact (ev_l1 (ev_l1 (ev_l1 e13 (by decide) (by decide)) (by decide) (by decide)) (by decide) (by decide))) (by exact (ev_lk_st1 ev_lk_st1_self (by decide) rfl)) (by exact ev_lk_st1_self)
              · intro c136
                refine ev_r_iload_n (pc := 56) (k := 2) (v := Int32.ofInt x64) (by decide +kernel) (by exact (ev_lk_st1 ev_lk_st1_self (by decide) rfl)) ?_
                refine ev_r_iconst (pc := 57) (k := -1) (by decide +kernel) ?_
                refine ev_r_icmp (pc := 58) (q := .ne) (o := 7) (t := 65) (c := x64 ≠ (-1)) (by decide +kernel) (ev_k_ne hx64 (by decide)) (by decide +kernel) ?_ ?_
                · intro c137
                  refine ev_r_iconst (pc := 65) (k := 0) (by decide +kernel) ?_
                  exact hK66 x64 hx64 x64 hx64 0 (by decide) s63 _ (by exact (ev_l1 (ev_l1 (ev_l1 e13 (by decide) (by decide)) (by decide) (by decide)) (by decide) (by decide))) (by exact (ev_lk_st1 ev_lk_st1_self (by decide) rfl)) (by exact ev_lk_st1_self)
                · intro c137
                  exact hK61 x64 hx64 x64 hx64 s63 _ (by exact (ev_l1 (ev_l1 (ev_l1 e13 (by decide) (by decide)) (by decide) (by decide)) (by decide) (by decide))) (by exact (ev_lk_st1 ev_lk_st1_self (by decide) rfl)) (by exact ev_lk_st1_self)
    · intro K34 hK34
      refine ev_r_icmp (pc := 26) (q := .ne) (o := 7) (t := 33) (c := x4 ≠ 63) (by decide +kernel) (ev_k_ne hx4 (by decide)) (by decide +kernel) ?_ ?_
      · intro c138
        refine ev_r_iconst (pc := 33) (k := -1) (by decide +kernel) ?_
        exact hK34 x5 hx5 ((-1)) (by decide) s9 _ (by exact (ev_l1 e7 (by decide) (by decide))) (by exact (ev_lk_st1 e8 (by decide) rfl)) (by exact ev_lk_st1_self)
      · intro c138
        refine ev_r_iconst (pc := 29) (k := 1) (by decide +kernel) ?_
        refine ev_r_goto (pc := 30) (o := 4) (t := 34) (by decide +kernel) (by decide +kernel) ?_
        exact hK34 x5 hx5 1 (by decide) s9 _ (by exact (ev_l1 e7 (by decide) (by decide))) (by exact (ev_lk_st1 e8 (by decide) rfl)) (by exact ev_lk_st1_self)
  · intro K22 hK22
    refine ev_r_icmp (pc := 14) (q := .ne) (o := 7) (t := 21) (c := x2 ≠ 43) (by decide +kernel) (ev_k_ne hx2 (by decide)) (by decide +kernel) ?_ ?_
    · intro c139
      refine ev_r_iconst (pc := 21) (k := 0) (by decide +kernel) ?_
      exact hK22 x2 hx2 0 (by decide) s3 _ (by exact (ev_lk_st1 (by rfl) (by decide) rfl)) (by exact ev_lk_st1_self)
    · intro c139
      refine ev_r_iconst (pc := 17) (k := 1) (by decide +kernel) ?_
      refine ev_r_goto (pc := 18) (o := 4) (t := 22) (by decide +kernel) (by decide +kernel) ?_
      exact hK22 x2 hx2 1 (by decide) s3 _ (by exact (ev_lk_st1 (by rfl) (by decide) rfl)) (by exact ev_lk_st1_self)
/-- MendBenchModel.escapes()V -/
def jm_256 (Q : Nat)  (S : ev_St) : Option ((Unit) × ev_St) := ev_bd (jm_233 Q 1 S) fun x2 s1 => ev_bd (jm_234 Q 2 s1) fun _ s3 => ev_bd (jm_247 Q x2 s3) fun x5 s4 => if x5 = 0 then (if x2 ≠ 110 then (ev_jn (fun  (s11 : ev_St) => ev_jn (fun (x12 : Int) (s14 : ev_St) => ev_bd (jm_237 Q x12 s14) fun x16 s15 => some ((), s15)) fun K86 => if x2 ≠ 98 then (K86 6 s11) else (K86 5 s11)) fun K73 => if x2 = 98 then (K73  s4) else (if x2 ≠ 66 then (ev_jn (fun  (s23 : ev_St) => ev_jn (fun (x24 : Int) (s26 : ev_St) => ev_bd (jm_237 Q x24 s26) fun x28 s27 => some ((), s27)) fun K117 => if x2 ≠ 65 then (K117 4 s23) else (K117 3 s23)) fun K105 => if x2 = 65 then (K105  s4) else (if x2 ≠ 122 then (ev_bd (jm_222 Q x2 49 57 s4) fun x33 s32 => if x33 = 0 then (if x2 ≠ 107 then (ev_bd (jm_228 Q x2 s32) fun x37 s36 => if x37 = 0 then (ev_b (ev_pI s36 621 25 1) fun s39 => some ((), s39)) else (ev_bd (jm_242 Q x2 s36) fun y41 s40 => ev_bd (jm_243 Q x2 s40) fun y43 s42 => ev_bd (jm_238 Q y41 y43 s42) fun _ s44 => some ((), s44))) else (ev_b (s32.1 621 25) fun x45 => ev_jn (fun (x46 : Int) (s49 : ev_St) => ev_if (ev_bl x46) (ev_b (ev_pI s49 621 25 x46) fun s50 => ev_bd (jm_232 Q  s50) fun x53 s52 => ev_bd (jm_237 Q 7 s52) fun x55 s54 => ev_ck (x53 + x55) fun x56 => ev_bd (jm_233 Q 1 s54) fun x58 s57 => ev_ck (x58 - 97) fun x59 => ev_ck ((-1) - x59) fun x60 => ev_if ((0 : Int) ≤ x56 ∧ x56 < (ev_aln 628 : Int)) (ev_b (ev_pI s57 628 (Int.toNat x56) x60) fun s61 => ev_b (s61.1 621 40) fun x62 => ev_b (ev_iand x62 1) fun x63 => ev_if ((0 : Int) ≤ x56 ∧ x56 < (ev_aln 629 : Int)) (ev_b (ev_pI s61 629 (Int.toNat x56) x63) fun s64 => ev_bd (jm_234 Q 3 s64) fun _ s65 => some ((), s65))))) fun K222 => ev_jn (fun  (s68 : ev_St) => K222 1 s68) fun K217 => if x45 ≠ 0 then (K217  s32) else (ev_bd (jm_233 Q 0 s32) fun x71 s70 => if x71 ≠ 60 then (K217  s70) else (ev_bd (jm_233 Q 1 s70) fun x74 s73 => ev_bd (jm_224 Q x74 s73) fun x76 s75 => if x76 = 0 then (K217  s75) else (ev_bd (jm_233 Q 2 s75) fun x79 s78 => if x79 = 62 then (K222 0 s78) else (K217  s78)))))) else (ev_bd (jm_232 Q  s32) fun x82 s81 => ev_bd (jm_237 Q 7 s81) fun x84 s83 => ev_ck (x82 + x84) fun x85 => ev_ck (x2 - 48) fun x86 => ev_if ((0 : Int) ≤ x85 ∧ x85 < (ev_aln 628 : Int)) (ev_b (ev_pI s83 628 (Int.toNat x85) x86) fun s87 => ev_b (s87.1 621 40) fun x88 => ev_b (ev_iand x88 1) fun x89 => ev_if ((0 : Int) ≤ x85 ∧ x85 < (ev_aln 629 : Int)) (ev_b (ev_pI s87 629 (Int.toNat x85) x89) fun s90 => some ((), s90))))) else (K105  s4))) else (K73  s4))) else (ev_bd (jm_242 Q 10 s4) fun y92 s91 => ev_bd (jm_243 Q 10 s91) fun y94 s93 => ev_bd (jm_238 Q y92 y94 s93) fun _ s95 => some ((), s95))) else (ev_bd (jm_246 Q x2 s4) fun _ s96 => ev_b (s96.2.1 621 41) fun y97 => ev_b (s96.2.1 621 42) fun y98 => ev_bd (jm_238 Q y97 y98 s96) fun _ s99 => some ((), s99))
theorem jt_256 (d : Nat) (hd : 6 ≤ d) (Q : Nat)   (S : ev_St) (x : Unit) (S' : ev_St) (hJ : jm_256 Q  S = some (x, S')) : ev_Ref d 256 [.ref 621] S (ev_eU x) S' (ev_PU x) := by
  obtain ⟨d, rfl⟩ : ∃ e, d = e + 1 := ⟨d - 1, by omega⟩
  refine ev_ref_of (P := ev_PU) (lv := [(0, .ref 621)]) (by decide +kernel) (by (try simp only [ev_sum, ev_nv_cat]); first | done | rfl) (by (try simp only [lv_args, ev_nv_cat]); first | done | rfl) ?_ x S' hJ
  unfold jm_256
  refine ev_r_aload_n (pc := 0) (k := 0) (v := .ref 621) trivial (by decide +kernel) (by rfl) ?_
  refine ev_r_iconst (pc := 1) (k := 1) (by decide +kernel) ?_
  refine ev_r_virt (pc := 2) (y := 409) (mi := 233) (na := 1) (k := 621) (as := [.int (Int32.ofInt 1)]) (rest := []) (encc := ev_oI) (Q := ev_rng) (fun x S1 h => jt_233 d (by omega) Q 1 (by decide) S x S1 h) (by exact ev_ob_621) (by decide +kernel) (by decide +kernel) (by decide +kernel) (by decide +kernel) rfl (by (try simp only [ev_sum, ev_nv_cat]); first | done | rfl) ?_
  intro x2 s1 hx2
  show ev_w _ _ _ _ _ [.int (Int32.ofInt x2)] _ _ _ _
  refine ev_r_istore_n (pc := 5) (k := 1) (by decide +kernel) (by decide +kernel) rfl ?_
  refine ev_r_aload_n (pc := 6) (k := 0) (v := .ref 621) trivial (by decide +kernel) (by exact (ev_lk_st1 (by rfl) (by decide) rfl)) ?_
  refine ev_r_iconst (pc := 7) (k := 2) (by decide +kernel) ?_
  refine ev_r_virt (pc := 8) (y := 415) (mi := 234) (na := 1) (k := 621) (as := [.int (Int32.ofInt 2)]) (rest := []) (encc := ev_oU) (Q := ev_PU) (fun x S1 h => jt_234 d (by omega) Q 2 (by decide) s1 x S1 h) (by exact ev_ob_621) (by decide +kernel) (by decide +kernel) (by decide +kernel) (by decide +kernel) rfl (by (try simp only [ev_sum, ev_nv_cat]); first | done | rfl) ?_
  intro _ s3 _
  show ev_w _ _ _ _ _ [] _ _ _ _
  refine ev_r_iload_n (pc := 11) (k := 1) (v := Int32.ofInt x2) (by decide +kernel) (by exact ev_lk_st1_self) ?_
  refine ev_r_stat (pc := 12) (y := 433) (kind := 2) (mi := 247) (na := 1) (as := [.int (Int32.ofInt x2)]) (rest := []) (encc := ev_oI) (Q := ev_bl) (fun x S1 h => jt_247 d (by omega) Q x2 hx2 s3 x S1 h) (Or.inl rfl) (by decide +kernel) (by decide +kernel) (by decide +kernel) (by decide +kernel) rfl (by (try simp only [ev_sum, ev_nv_cat]); first | done | rfl) ?_
  intro x5 s4 hx5
  replace hx5 := ev_bl_rng hx5
  show ev_w _ _ _ _ _ [.int (Int32.ofInt x5)] _ _ _ _
  refine ev_r_if (pc := 15) (q := .eq) (o := 23) (t := 38) (c := x5 = 0) (by decide +kernel) (ev_k_eq hx5 ev_rng0) (by decide +kernel) ?_ ?_
  · intro c6
    refine ev_r_iload_n (pc := 38) (k := 1) (v := Int32.ofInt x2) (by decide +kernel) (by exact ev_lk_st1_self) ?_
    refine ev_r_bipush (pc := 39) (k := 110) (by decide +kernel) (by decide +kernel) ?_
    refine ev_r_icmp (pc := 41) (q := .ne) (o := 20) (t := 61) (c := x2 ≠ 110) (by decide +kernel) (ev_k_ne hx2 (by decide)) (by decide +kernel) ?_ ?_
    · intro c7
      refine ev_r_iload_n (pc := 61) (k := 1) (v := Int32.ofInt x2) (by decide +kernel) (by exact ev_lk_st1_self) ?_
      refine ev_r_bipush (pc := 62) (k := 98) (by decide +kernel) (by decide +kernel) ?_
      refine ev_r_jn (Q := fun K => ∀ (s11 : ev_St) (w8 : List (Nat × Value)), ev_lk w8 0 = some (.ref 621) → ev_lk w8 1 = some (.int (Int32.ofInt x2)) → ev_w none (ev_Mof 256) d 73 w8 [] s11 (K  s11) ev_eU ev_PU) ?_ ?_
      · intro  s11 w8 e9 e10
        refine ev_r_aload_n (pc := 73) (k := 0) (v := .ref 621) trivial (by decide +kernel) (by exact e9) ?_
        refine ev_r_iload_n (pc := 74) (k := 1) (v := Int32.ofInt x2) (by decide +kernel) (by exact e10) ?_
        refine ev_r_bipush (pc := 75) (k := 98) (by decide +kernel) (by decide +kernel) ?_
        refine ev_r_jn (Q := fun K => ∀ (x12 : Int) (hx12 : ev_rng x12), ∀ (s14 : ev_St) (w13 : List (Nat × Value)), ev_w none (ev_Mof 256) d 86 w13 [.int (Int32.ofInt x12), .ref 621] s14 (K x12 s14) ev_eU ev_PU) ?_ ?_
        · intro x12 hx12 s14 w13 
          refine ev_r_virt (pc := 86) (y := 378) (mi := 237) (na := 1) (k := 621) (as := [.int (Int32.ofInt x12)]) (rest := []) (encc := ev_oI) (Q := ev_rng) (fun x S1 h => jt_237 d (by omega) Q x12 hx12 s14 x S1 h) (by exact ev_ob_621) (by decide +kernel) (by decide +kernel) (by decide +kernel) (by decide +kernel) rfl (by (try simp only [ev_sum, ev_nv_cat]); first | done | rfl) ?_
          intro x16 s15 hx16
          show ev_w _ _ _ _ _ [.int (Int32.ofInt x16)] _ _ _ _
          refine ev_r_istore_n (pc := 89) (k := 2) (by decide +kernel) (by decide +kernel) rfl ?_
          refine ev_r_goto (pc := 90) (o := 210) (t := 300) (by decide +kernel) (by decide +kernel) ?_
          exact ev_r_return (pc := 300) (x := ()) trivial (by decide +kernel) (by decide +kernel) rfl
        · intro K86 hK86
          refine ev_r_icmp (pc := 77) (q := .ne) (o := 7) (t := 84) (c := x2 ≠ 98) (by decide +kernel) (ev_k_ne hx2 (by decide)) (by decide +kernel) ?_ ?_
          · intro c17
            refine ev_r_bipush (pc := 84) (k := 6) (by decide +kernel) (by decide +kernel) ?_
            exact hK86 6 (by decide) s11 _ 
          · intro c17
            refine ev_r_iconst (pc := 80) (k := 5) (by decide +kernel) ?_
            refine ev_r_goto (pc := 81) (o := 5) (t := 86) (by decide +kernel) (by decide +kernel) ?_
            exact hK86 5 (by decide) s11 _ 
      · intro K73 hK73
        refine ev_r_icmp (pc := 64) (q := .eq) (o := 9) (t := 73) (c := x2 = 98) (by decide +kernel) (ev_k_eq hx2 (by decide)) (by decide +kernel) ?_ ?_
        · intro c18
          exact hK73  s4 _ (by exact (ev_lk_st1 (by rfl) (by decide) rfl)) (by exact ev_lk_st1_self)
        · intro c18
          refine ev_r_iload_n (pc := 67) (k := 1) (v := Int32.ofInt x2) (by decide +kernel) (by exact ev_lk_st1_self) ?_
          refine ev_r_bipush (pc := 68) (k := 66) (by decide +kernel) (by decide +kernel) ?_
          refine ev_r_icmp (pc := 70) (q := .ne) (o := 23) (t := 93) (c := x2 ≠ 66) (by decide +kernel) (ev_k_ne hx2 (by decide)) (by decide +kernel) ?_ ?_
          · intro c19
            refine ev_r_iload_n (pc := 93) (k := 1) (v := Int32.ofInt x2) (by decide +kernel) (by exact ev_lk_st1_self) ?_
            refine ev_r_bipush (pc := 94) (k := 65) (by decide +kernel) (by decide +kernel) ?_
            refine ev_r_jn (Q := fun K => ∀ (s23 : ev_St) (w20 : List (Nat × Value)), ev_lk w20 0 = some (.ref 621) → ev_lk w20 1 = some (.int (Int32.ofInt x2)) → ev_w none (ev_Mof 256) d 105 w20 [] s23 (K  s23) ev_eU ev_PU) ?_ ?_
            · intro  s23 w20 e21 e22
              refine ev_r_aload_n (pc := 105) (k := 0) (v := .ref 621) trivial (by decide +kernel) (by exact e21) ?_
              refine ev_r_iload_n (pc := 106) (k := 1) (v := Int32.ofInt x2) (by decide +kernel) (by exact e22) ?_
              refine ev_r_bipush (pc := 107) (k := 65) (by decide +kernel) (by decide +kernel) ?_
              refine ev_r_jn (Q := fun K => ∀ (x24 : Int) (hx24 : ev_rng x24), ∀ (s26 : ev_St) (w25 : List (Nat × Value)), ev_w none (ev_Mof 256) d 117 w25 [.int (Int32.ofInt x24), .ref 621] s26 (K x24 s26) ev_eU ev_PU) ?_ ?_
              · intro x24 hx24 s26 w25 
                refine ev_r_virt (pc := 117) (y := 378) (mi := 237) (na := 1) (k := 621) (as := [.int (Int32.ofInt x24)]) (rest := []) (encc := ev_oI) (Q := ev_rng) (fun x S1 h => jt_237 d (by omega) Q x24 hx24 s26 x S1 h) (by exact ev_ob_621) (by decide +kernel) (by decide +kernel) (by decide +kernel) (by decide +kernel) rfl (by (try simp only [ev_sum, ev_nv_cat]); first | done | rfl) ?_
                intro x28 s27 hx28
                show ev_w _ _ _ _ _ [.int (Int32.ofInt x28)] _ _ _ _
                refine ev_r_istore_n (pc := 120) (k := 2) (by decide +kernel) (by decide +kernel) rfl ?_
                refine ev_r_goto (pc := 121) (o := 179) (t := 300) (by decide +kernel) (by decide +kernel) ?_
                exact ev_r_return (pc := 300) (x := ()) trivial (by decide +kernel) (by decide +kernel) rfl
              · intro K117 hK117
                refine ev_r_icmp (pc := 109) (q := .ne) (o := 7) (t := 116) (c := x2 ≠ 65) (by decide +kernel) (ev_k_ne hx2 (by decide)) (by decide +kernel) ?_ ?_
                · intro c29
                  refine ev_r_iconst (pc := 116) (k := 4) (by decide +kernel) ?_
                  exact hK117 4 (by decide) s23 _ 
                · intro c29
                  refine ev_r_iconst (pc := 112) (k := 3) (by decide +kernel) ?_
                  refine ev_r_goto (pc := 113) (o := 4) (t := 117) (by decide +kernel) (by decide +kernel) ?_
                  exact hK117 3 (by decide) s23 _ 
            · intro K105 hK105
              refine ev_r_icmp (pc := 96) (q := .eq) (o := 9) (t := 105) (c := x2 = 65) (by decide +kernel) (ev_k_eq hx2 (by decide)) (by decide +kernel) ?_ ?_
              · intro c30
                exact hK105  s4 _ (by exact (ev_lk_st1 (by rfl) (by decide) rfl)) (by exact ev_lk_st1_self)
              · intro c30
                refine ev_r_iload_n (pc := 99) (k := 1) (v := Int32.ofInt x2) (by decide +kernel) (by exact ev_lk_st1_self) ?_
                refine ev_r_bipush (pc := 100) (k := 122) (by decide +kernel) (by decide +kernel) ?_
                refine ev_r_icmp (pc := 102) (q := .ne) (o := 22) (t := 124) (c := x2 ≠ 122) (by decide +kernel) (ev_k_ne hx2 (by decide)) (by decide +kernel) ?_ ?_
                · intro c31
                  refine ev_r_iload_n (pc := 124) (k := 1) (v := Int32.ofInt x2) (by decide +kernel) (by exact ev_lk_st1_self) ?_
                  refine ev_r_bipush (pc := 125) (k := 49) (by decide +kernel) (by decide +kernel) ?_
                  refine ev_r_bipush (pc := 127) (k := 57) (by decide +kernel) (by decide +kernel) ?_
                  refine ev_r_stat (pc := 129) (y := 325) (kind := 2) (mi := 222) (na := 3) (as := [.int (Int32.ofInt x2), .int (Int32.ofInt 49), .int (Int32.ofInt 57)]) (rest := []) (encc := ev_oI) (Q := ev_bl) (fun x S1 h => jt_222 d (by omega) Q x2 49 57 hx2 (by decide) (by decide) s4 x S1 h) (Or.inl rfl) (by decide +kernel) (by decide +kernel) (by decide +kernel) (by decide +kernel) rfl (by (try simp only [ev_sum, ev_nv_cat]); first | done | rfl) ?_
                  intro x33 s32 hx33
                  replace hx33 := ev_bl_rng hx33
                  show ev_w _ _ _ _ _ [.int (Int32.ofInt x33)] _ _ _ _
                  refine ev_r_if (pc := 132) (q := .eq) (o := 40) (t := 172) (c := x33 = 0) (by decide +kernel) (ev_k_eq hx33 ev_rng0) (by decide +kernel) ?_ ?_
                  · intro c34
                    refine ev_r_iload_n (pc := 172) (k := 1) (v := Int32.ofInt x2) (by decide +kernel) (by exact ev_lk_st1_self) ?_
                    refine ev_r_bipush (pc := 173) (k := 107) (by decide +kernel) (by decide +kernel) ?_
                    refine ev_r_icmp (pc := 175) (q := .ne) (o := 98) (t := 273) (c := x2 ≠ 107) (by decide +kernel) (ev_k_ne hx2 (by decide)) (by decide +kernel) ?_ ?_
                    · intro c35
                      refine ev_r_iload_n (pc := 273) (k := 1) (v := Int32.ofInt x2) (by decide +kernel) (by exact ev_lk_st1_self) ?_
                      refine ev_r_stat (pc := 274) (y := 412) (kind := 2) (mi := 228) (na := 1) (as := [.int (Int32.ofInt x2)]) (rest := []) (encc := ev_oI) (Q := ev_bl) (fun x S1 h => jt_228 d (by omega) Q x2 hx2 s32 x S1 h) (Or.inl rfl) (by decide +kernel) (by decide +kernel) (by decide +kernel) (by decide +kernel) rfl (by (try simp only [ev_sum, ev_nv_cat]); first | done | rfl) ?_
                      intro x37 s36 hx37
                      replace hx37 := ev_bl_rng hx37
                      show ev_w _ _ _ _ _ [.int (Int32.ofInt x37)] _ _ _ _
                      refine ev_r_if (pc := 277) (q := .eq) (o := 18) (t := 295) (c := x37 = 0) (by decide +kernel) (ev_k_eq hx37 ev_rng0) (by decide +kernel) ?_ ?_
                      · intro c38
                        refine ev_r_aload_n (pc := 295) (k := 0) (v := .ref 621) trivial (by decide +kernel) (by exact (ev_lk_st1 (by rfl) (by decide) rfl)) ?_
                        refine ev_r_iconst (pc := 296) (k := 1) (by decide +kernel) ?_
                        refine ev_r_putI (pc := 297) (y := 352) (ci := 13) (f := 25) (by decide) (by decide +kernel) (by decide +kernel) (by exact ev_ob_621) rfl (ev_fit_bl (by decide : ev_bl 1)) ?_
                        intro s39
                        exact ev_r_return (pc := 300) (x := ()) trivial (by decide +kernel) (by decide +kernel) rfl
                      · intro c38
                        refine ev_r_aload_n (pc := 280) (k := 0) (v := .ref 621) trivial (by decide +kernel) (by exact (ev_lk_st1 (by rfl) (by decide) rfl)) ?_
                        refine ev_r_iload_n (pc := 281) (k := 1) (v := Int32.ofInt x2) (by decide +kernel) (by exact ev_lk_st1_self) ?_
                        refine ev_r_stat (pc := 282) (y := 387) (kind := 2) (mi := 242) (na := 1) (as := [.int (Int32.ofInt x2)]) (rest := [.ref 621]) (encc := ev_oL) (Q := ev_PU) (fun x S1 h => jt_242 d (by omega) Q x2 hx2 s36 x S1 h) (Or.inl rfl) (by decide +kernel) (by decide +kernel) (by decide +kernel) (by decide +kernel) rfl (by (try simp only [ev_sum, ev_nv_cat]); first | done | rfl) ?_
                        intro y41 s40 _
                        show ev_w _ _ _ _ _ [.long y41, .ref 621] _ _ _ _
                        refine ev_r_iload_n (pc := 285) (k := 1) (v := Int32.ofInt x2) (by decide +kernel) (by exact ev_lk_st1_self) ?_
                        refine ev_r_stat (pc := 286) (y := 391) (kind := 2) (mi := 243) (na := 1) (as := [.int (Int32.ofInt x2)]) (rest := [.long y41, .ref 621]) (encc := ev_oL) (Q := ev_PU) (fun x S1 h => jt_243 d (by omega) Q x2 hx2 s40 x S1 h) (Or.inl rfl) (by decide +kernel) (by decide +kernel) (by decide +kernel) (by decide +kernel) rfl (by (try simp only [ev_sum, ev_nv_cat]); first | done | rfl) ?_
                        intro y43 s42 _
                        show ev_w _ _ _ _ _ [.long y43, .long y41, .ref 621] _ _ _ _
                        refine ev_r_virt (pc := 289) (y := 449) (mi := 238) (na := 2) (k := 621) (as := [.long y41, .long y43]) (rest := []) (encc := ev_oU) (Q := ev_PU) (fun x S1 h => jt_238 d (by omega) Q y41 y43  s42 x S1 h) (by exact ev_ob_621) (by decide +kernel) (by decide +kernel) (by decide +kernel) (by decide +kernel) rfl (by (try simp only [ev_sum, ev_nv_cat]); first | done | rfl) ?_
                        intro _ s44 _
                        show ev_w _ _ _ _ _ [] _ _ _ _
                        refine ev_r_goto (pc := 292) (o := 8) (t := 300) (by decide +kernel) (by decide +kernel) ?_
                        exact ev_r_return (pc := 300) (x := ()) trivial (by decide +kernel) (by decide +kernel) rfl
                    · intro c35
                      refine ev_r_aload_n (pc := 178) (k := 0) (v := .ref 621) trivial (by decide +kernel) (by exact (ev_lk_st1 (by rfl) (by decide) rfl)) ?_
                      refine ev_r_aload_n (pc := 179) (k := 0) (v := .ref 621) trivial (by decide +kernel) (by exact (ev_lk_st1 (by rfl) (by decide) rfl)) ?_
                      refine ev_r_getI (pc := 180) (y := 352) (ci := 13) (f := 25) (fin := 0) (by decide +kernel) (by decide +kernel) (by exact ev_ob_621) rfl ?_
                      intro x45 hx45
                      refine ev_r_jn (Q := fun K => ∀ (x46 : Int) (hx46 : ev_rng x46), ∀ (s49 : ev_St) (w47 : List (Nat × Value)), ev_lk w47 0 = some (.ref 621) → ev_w none (ev_Mof 256) d 222 w47 [.int (Int32.ofInt x46), .ref 621] s49 (K x46 s49) ev_eU ev_PU) ?_ ?_
                      · intro x46 hx46 s49 w47 e48
                        refine ev_r_chk ?_
                        intro c51
                        refine ev_r_putI (pc := 222) (y := 352) (ci := 13) (f := 25) hx46 (by decide +kernel) (by decide +kernel) (by exact ev_ob_621) rfl (ev_fit_bl c51) ?_
                        intro s50
                        refine ev_r_aload_n (pc := 225) (k := 0) (v := .ref 621) trivial (by decide +kernel) (by exact e48) ?_
                        refine ev_r_virt (pc := 226) (y := 356) (mi := 232) (na := 0) (k := 621) (as := []) (rest := []) (encc := ev_oI) (Q := ev_rng) (fun x S1 h => jt_232 d (by omega) Q   s50 x S1 h) (by exact ev_ob_621) (by decide +kernel) (by decide +kernel) (by decide +kernel) (by decide +kernel) rfl (by (try simp only [ev_sum, ev_nv_cat]); first | done | rfl) ?_
                        intro x53 s52 hx53
                        show ev_w _ _ _ _ _ [.int (Int32.ofInt x53)] _ _ _ _
                        refine ev_r_aload_n (pc := 229) (k := 0) (v := .ref 621) trivial (by decide +kernel) (by exact e48) ?_
                        refine ev_r_bipush (pc := 230) (k := 7) (by decide +kernel) (by decide +kernel) ?_
                        refine ev_r_virt (pc := 232) (y := 378) (mi := 237) (na := 1) (k := 621) (as := [.int (Int32.ofInt 7)]) (rest := [.int (Int32.ofInt x53)]) (encc := ev_oI) (Q := ev_rng) (fun x S1 h => jt_237 d (by omega) Q 7 (by decide) s52 x S1 h) (by exact ev_ob_621) (by decide +kernel) (by decide +kernel) (by decide +kernel) (by decide +kernel) rfl (by (try simp only [ev_sum, ev_nv_cat]); first | done | rfl) ?_
                        intro x55 s54 hx55
                        show ev_w _ _ _ _ _ [.int (Int32.ofInt x55), .int (Int32.ofInt x53)] _ _ _ _
                        refine ev_r_iadd (pc := 235) (by decide +kernel) ?_
                        intro x56 hx56
                        refine ev_r_istore_n (pc := 236) (k := 2) (by decide +kernel) (by decide +kernel) rfl ?_
                        refine ev_r_aload_n (pc := 237) (k := 0) (v := .ref 621) trivial (by decide +kernel) (by exact (ev_l1 e48 (by decide) (by decide))) ?_
                        refine ev_r_getC (pc := 238) (y := 28) (ci := 13) (f := 9) (fin := 1) (k' := 628) (by decide +kernel) (by decide +kernel) (by exact ev_ob_621) rfl rfl ?_
                        refine ev_r_iload_n (pc := 241) (k := 2) (v := Int32.ofInt x56) (by decide +kernel) (by exact ev_lk_st1_self) ?_
                        refine ev_r_iconst (pc := 242) (k := -1) (by decide +kernel) ?_
                        refine ev_r_aload_n (pc := 243) (k := 0) (v := .ref 621) trivial (by decide +kernel) (by exact (ev_l1 e48 (by decide) (by decide))) ?_
                        refine ev_r_iconst (pc := 244) (k := 1) (by decide +kernel) ?_
                        refine ev_r_virt (pc := 245) (y := 409) (mi := 233) (na := 1) (k := 621) (as := [.int (Int32.ofInt 1)]) (rest := [.int (Int32.ofInt ((-1))), .int (Int32.ofInt x56), .ref 628]) (encc := ev_oI) (Q := ev_rng) (fun x S1 h => jt_233 d (by omega) Q 1 (by decide) s54 x S1 h) (by exact ev_ob_621) (by decide +kernel) (by decide +kernel) (by decide +kernel) (by decide +kernel) rfl (by (try simp only [ev_sum, ev_nv_cat]); first | done | rfl) ?_
                        intro x58 s57 hx58
                        show ev_w _ _ _ _ _ [.int (Int32.ofInt x58), .int (Int32.ofInt ((-1))), .int (Int32.ofInt x56), .ref 628] _ _ _ _
                        refine ev_r_bipush (pc := 248) (k := 97) (by decide +kernel) (by decide +kernel) ?_
                        refine ev_r_isub (pc := 250) (by decide +kernel) ?_
                        intro x59 hx59
                        refine ev_r_isub (pc := 251) (by decide +kernel) ?_
                        intro x60 hx60
                        refine ev_r_iast (pc := 252) hx60 hx56 (by decide +kernel) (by exact ev_ab_628) ?_
                        intro s61
                        refine ev_r_aload_n (pc := 253) (k := 0) (v := .ref 621) trivial (by decide +kernel) (by exact (ev_l1 e48 (by decide) (by decide))) ?_
                        refine ev_r_getC (pc := 254) (y := 31) (ci := 13) (f := 10) (fin := 1) (k' := 629) (by decide +kernel) (by decide +kernel) (by exact ev_ob_621) rfl rfl ?_
                        refine ev_r_iload_n (pc := 257) (k := 2) (v := Int32.ofInt x56) (by decide +kernel) (by exact ev_lk_st1_self) ?_
                        refine ev_r_aload_n (pc := 258) (k := 0) (v := .ref 621) trivial (by decide +kernel) (by exact (ev_l1 e48 (by decide) (by decide))) ?_
                        refine ev_r_getI (pc := 259) (y := 384) (ci := 13) (f := 40) (fin := 0) (by decide +kernel) (by decide +kernel) (by exact ev_ob_621) rfl ?_
                        intro x62 hx62
                        refine ev_r_iconst (pc := 262) (k := 1) (by decide +kernel) ?_
                        refine ev_r_iand (pc := 263) (by decide +kernel) ?_
                        intro x63 hx63
                        refine ev_r_iast (pc := 264) hx63 hx56 (by decide +kernel) (by exact ev_ab_629) ?_
                        intro s64
                        refine ev_r_aload_n (pc := 265) (k := 0) (v := .ref 621) trivial (by decide +kernel) (by exact (ev_l1 e48 (by decide) (by decide))) ?_
                        refine ev_r_iconst (pc := 266) (k := 3) (by decide +kernel) ?_
                        refine ev_r_virt (pc := 267) (y := 415) (mi := 234) (na := 1) (k := 621) (as := [.int (Int32.ofInt 3)]) (rest := []) (encc := ev_oU) (Q := ev_PU) (fun x S1 h => jt_234 d (by omega) Q 3 (by decide) s64 x S1 h) (by exact ev_ob_621) (by decide +kernel) (by decide +kernel) (by decide +kernel) (by decide +kernel) rfl (by (try simp only [ev_sum, ev_nv_cat]); first | done | rfl) ?_
                        intro _ s65 _
                        show ev_w _ _ _ _ _ [] _ _ _ _
                        refine ev_r_goto (pc := 270) (o := 30) (t := 300) (by decide +kernel) (by decide +kernel) ?_
                        exact ev_r_return (pc := 300) (x := ()) trivial (by decide +kernel) (by decide +kernel) rfl
                      · intro K222 hK222
                        refine ev_r_jn (Q := fun K => ∀ (s68 : ev_St) (w66 : List (Nat × Value)), ev_lk w66 0 = some (.ref 621) → ev_w none (ev_Mof 256) d 217 w66 [.ref 621] s68 (K  s68) ev_eU ev_PU) ?_ ?_
                        · intro  s68 w66 e67
                          refine ev_r_iconst (pc := 217) (k := 1) (by decide +kernel) ?_
                          refine ev_r_goto (pc := 218) (o := 4) (t := 222) (by decide +kernel) (by decide +kernel) ?_
                          exact hK222 1 (by decide) s68 _ (by exact e67)
                        · intro K217 hK217
                          refine ev_r_if (pc := 183) (q := .ne) (o := 34) (t := 217) (c := x45 ≠ 0) (by decide +kernel) (ev_k_ne hx45 ev_rng0) (by decide +kernel) ?_ ?_
                          · intro c69
                            exact hK217  s32 _ (by exact (ev_lk_st1 (by rfl) (by decide) rfl))
                          · intro c69
                            refine ev_r_aload_n (pc := 186) (k := 0) (v := .ref 621) trivial (by decide +kernel) (by exact (ev_lk_st1 (by rfl) (by decide) rfl)) ?_
                            refine ev_r_iconst (pc := 187) (k := 0) (by decide +kernel) ?_
                            refine ev_r_virt (pc := 188) (y := 409) (mi := 233) (na := 1) (k := 621) (as := [.int (Int32.ofInt 0)]) (rest := [.ref 621]) (encc := ev_oI) (Q := ev_rng) (fun x S1 h => jt_233 d (by omega) Q 0 (by decide) s32 x S1 h) (by exact ev_ob_621) (by decide +kernel) (by decide +kernel) (by decide +kernel) (by decide +kernel) rfl (by (try simp only [ev_sum, ev_nv_cat]); first | done | rfl) ?_
                            intro x71 s70 hx71
                            show ev_w _ _ _ _ _ [.int (Int32.ofInt x71), .ref 621] _ _ _ _
                            refine ev_r_bipush (pc := 191) (k := 60) (by decide +kernel) (by decide +kernel) ?_
                            refine ev_r_icmp (pc := 193) (q := .ne) (o := 24) (t := 217) (c := x71 ≠ 60) (by decide +kernel) (ev_k_ne hx71 (by decide)) (by decide +kernel) ?_ ?_
                            · intro c72
                              exact hK217  s70 _ (by exact (ev_lk_st1 (by rfl) (by decide) rfl))
                            · intro c72
                              refine ev_r_aload_n (pc := 196) (k := 0) (v := .ref 621) trivial (by decide +kernel) (by exact (ev_lk_st1 (by rfl) (by decide) rfl)) ?_
                              refine ev_r_iconst (pc := 197) (k := 1) (by decide +kernel) ?_
                              refine ev_r_virt (pc := 198) (y := 409) (mi := 233) (na := 1) (k := 621) (as := [.int (Int32.ofInt 1)]) (rest := [.ref 621]) (encc := ev_oI) (Q := ev_rng) (fun x S1 h => jt_233 d (by omega) Q 1 (by decide) s70 x S1 h) (by exact ev_ob_621) (by decide +kernel) (by decide +kernel) (by decide +kernel) (by decide +kernel) rfl (by (try simp only [ev_sum, ev_nv_cat]); first | done | rfl) ?_
                              intro x74 s73 hx74
                              show ev_w _ _ _ _ _ [.int (Int32.ofInt x74), .ref 621] _ _ _ _
                              refine ev_r_stat (pc := 201) (y := 329) (kind := 2) (mi := 224) (na := 1) (as := [.int (Int32.ofInt x74)]) (rest := [.ref 621]) (encc := ev_oI) (Q := ev_bl) (fun x S1 h => jt_224 d (by omega) Q x74 hx74 s73 x S1 h) (Or.inl rfl) (by decide +kernel) (by decide +kernel) (by decide +kernel) (by decide +kernel) rfl (by (try simp only [ev_sum, ev_nv_cat]); first | done | rfl) ?_
                              intro x76 s75 hx76
                              replace hx76 := ev_bl_rng hx76
                              show ev_w _ _ _ _ _ [.int (Int32.ofInt x76), .ref 621] _ _ _ _
                              refine ev_r_if (pc := 204) (q := .eq) (o := 13) (t := 217) (c := x76 = 0) (by decide +kernel) (ev_k_eq hx76 ev_rng0) (by decide +kernel) ?_ ?_
                              · intro c77
                                exact hK217  s75 _ (by exact (ev_lk_st1 (by rfl) (by decide) rfl))
                              · intro c77
                                refine ev_r_aload_n (pc := 207) (k := 0) (v := .ref 621) trivial (by decide +kernel) (by exact (ev_lk_st1 (by rfl) (by decide) rfl)) ?_
                                refine ev_r_iconst (pc := 208) (k := 2) (by decide +kernel) ?_
                                refine ev_r_virt (pc := 209) (y := 409) (mi := 233) (na := 1) (k := 621) (as := [.int (Int32.ofInt 2)]) (rest := [.ref 621]) (encc := ev_oI) (Q := ev_rng) (fun x S1 h => jt_233 d (by omega) Q 2 (by decide) s75 x S1 h) (by exact ev_ob_621) (by decide +kernel) (by decide +kernel) (by decide +kernel) (by decide +kernel) rfl (by (try simp only [ev_sum, ev_nv_cat]); first | done | rfl) ?_
                                intro x79 s78 hx79
                                show ev_w _ _ _ _ _ [.int (Int32.ofInt x79), .ref 621] _ _ _ _
                                refine ev_r_bipush (pc := 212) (k := 62) (by decide +kernel) (by decide +kernel) ?_
                                refine ev_r_icmp (pc := 214) (q := .eq) (o := 7) (t := 221) (c := x79 = 62) (by decide +kernel) (ev_k_eq hx79 (by decide)) (by decide +kernel) ?_ ?_
                                · intro c80
                                  refine ev_r_iconst (pc := 221) (k := 0) (by decide +kernel) ?_
                                  exact hK222 0 (by decide) s78 _ (by exact (ev_lk_st1 (by rfl) (by decide) rfl))
                                · intro c80
                                  exact hK217  s78 _ (by exact (ev_lk_st1 (by rfl) (by decide) rfl))
                  · intro c34
                    refine ev_r_aload_n (pc := 135) (k := 0) (v := .ref 621) trivial (by decide +kernel) (by exact (ev_lk_st1 (by rfl) (by decide) rfl)) ?_
                    refine ev_r_virt (pc := 136) (y := 356) (mi := 232) (na := 0) (k := 621) (as := []) (rest := []) (encc := ev_oI) (Q := ev_rng) (fun x S1 h => jt_232 d (by omega) Q   s32 x S1 h) (by exact ev_ob_621) (by decide +kernel) (by decide +kernel) (by decide +kernel) (by decide +kernel) rfl (by (try simp only [ev_sum, ev_nv_cat]); first | done | rfl) ?_
                    intro x82 s81 hx82
                    show ev_w _ _ _ _ _ [.int (Int32.ofInt x82)] _ _ _ _
                    refine ev_r_aload_n (pc := 139) (k := 0) (v := .ref 621) trivial (by decide +kernel) (by exact (ev_lk_st1 (by rfl) (by decide) rfl)) ?_
                    refine ev_r_bipush (pc := 140) (k := 7) (by decide +kernel) (by decide +kernel) ?_
                    refine ev_r_virt (pc := 142) (y := 378) (mi := 237) (na := 1) (k := 621) (as := [.int (Int32.ofInt 7)]) (rest := [.int (Int32.ofInt x82)]) (encc := ev_oI) (Q := ev_rng) (fun x S1 h => jt_237 d (by omega) Q 7 (by decide) s81 x S1 h) (by exact ev_ob_621) (by decide +kernel) (by decide +kernel) (by decide +kernel) (by decide +kernel) rfl (by (try simp only [ev_sum, ev_nv_cat]); first | done | rfl) ?_
                    intro x84 s83 hx84
                    show ev_w _ _ _ _ _ [.int (Int32.ofInt x84), .int (Int32.ofInt x82)] _ _ _ _
                    refine ev_r_iadd (pc := 145) (by decide +kernel) ?_
                    intro x85 hx85
                    refine ev_r_istore_n (pc := 146) (k := 2) (by decide +kernel) (by decide +kernel) rfl ?_
                    refine ev_r_aload_n (pc := 147) (k := 0) (v := .ref 621) trivial (by decide +kernel) (by exact (ev_l1 (ev_lk_st1 (by rfl) (by decide) rfl) (by decide) (by decide))) ?_
                    refine ev_r_getC (pc := 148) (y := 28) (ci := 13) (f := 9) (fin := 1) (k' := 628) (by decide +kernel) (by decide +kernel) (by exact ev_ob_621) rfl rfl ?_
                    refine ev_r_iload_n (pc := 151) (k := 2) (v := Int32.ofInt x85) (by decide +kernel) (by exact ev_lk_st1_self) ?_
                    refine ev_r_iload_n (pc := 152) (k := 1) (v := Int32.ofInt x2) (by decide +kernel) (by exact (ev_lk_st1 ev_lk_st1_self (by decide) rfl)) ?_
                    refine ev_r_bipush (pc := 153) (k := 48) (by decide +kernel) (by decide +kernel) ?_
                    refine ev_r_isub (pc := 155) (by decide +kernel) ?_
                    intro x86 hx86
                    refine ev_r_iast (pc := 156) hx86 hx85 (by decide +kernel) (by exact ev_ab_628) ?_
                    intro s87
                    refine ev_r_aload_n (pc := 157) (k := 0) (v := .ref 621) trivial (by decide +kernel) (by exact (ev_l1 (ev_lk_st1 (by rfl) (by decide) rfl) (by decide) (by decide))) ?_
                    refine ev_r_getC (pc := 158) (y := 31) (ci := 13) (f := 10) (fin := 1) (k' := 629) (by decide +kernel) (by decide +kernel) (by exact ev_ob_621) rfl rfl ?_
                    refine ev_r_iload_n (pc := 161) (k := 2) (v := Int32.ofInt x85) (by decide +kernel) (by exact ev_lk_st1_self) ?_
                    refine ev_r_aload_n (pc := 162) (k := 0) (v := .ref 621) trivial (by decide +kernel) (by exact (ev_l1 (ev_lk_st1 (by rfl) (by decide) rfl) (by decide) (by decide))) ?_
                    refine ev_r_getI (pc := 163) (y := 384) (ci := 13) (f := 40) (fin := 0) (by decide +kernel) (by decide +kernel) (by exact ev_ob_621) rfl ?_
                    intro x88 hx88
                    refine ev_r_iconst (pc := 166) (k := 1) (by decide +kernel) ?_
                    refine ev_r_iand (pc := 167) (by decide +kernel) ?_
                    intro x89 hx89
                    refine ev_r_iast (pc := 168) hx89 hx85 (by decide +kernel) (by exact ev_ab_629) ?_
                    intro s90
                    refine ev_r_goto (pc := 169) (o := 131) (t := 300) (by decide +kernel) (by decide +kernel) ?_
                    exact ev_r_return (pc := 300) (x := ()) trivial (by decide +kernel) (by decide +kernel) rfl
                · intro c31
                  exact hK105  s4 _ (by exact (ev_lk_st1 (by rfl) (by decide) rfl)) (by exact ev_lk_st1_self)
          · intro c19
            exact hK73  s4 _ (by exact (ev_lk_st1 (by rfl) (by decide) rfl)) (by exact ev_lk_st1_self)
    · intro c7
      refine ev_r_aload_n (pc := 44) (k := 0) (v := .ref 621) trivial (by decide +kernel) (by exact (ev_lk_st1 (by rfl) (by decide) rfl)) ?_
      refine ev_r_bipush (pc := 45) (k := 10) (by decide +kernel) (by decide +kernel) ?_
      refine ev_r_stat (pc := 47) (y := 387) (kind := 2) (mi := 242) (na := 1) (as := [.int (Int32.ofInt 10)]) (rest := [.ref 621]) (encc := ev_oL) (Q := ev_PU) (fun x S1 h => jt_242 d (by omega) Q 10 (by decide) s4 x S1 h) (Or.inl rfl) (by decide +kernel) (by decide +kernel) (by decide +kernel) (by decide +kernel) rfl (by (try simp only [ev_sum, ev_nv_cat]); first | done | rfl) ?_
      intro y92 s91 _
      show ev_w _ _ _ _ _ [.long y92, .ref 621] _ _ _ _
      refine ev_r_bipush (pc := 50) (k := 10) (by decide +kernel) (by decide +kernel) ?_
      refine ev_r_stat (pc := 52) (y := 391) (kind := 2) (mi := 243) (na := 1) (as := [.int (Int32.ofInt 10)]) (rest := [.long y92, .ref 621]) (encc := ev_oL) (Q := ev_PU) (fun x S1 h => jt_243 d (by omega) Q 10 (by decide) s91 x S1 h) (Or.inl rfl) (by decide +kernel) (by decide +kernel) (by decide +kernel) (by decide +kernel) rfl (by (try simp only [ev_sum, ev_nv_cat]); first | done | rfl) ?_
      intro y94 s93 _
      show ev_w _ _ _ _ _ [.long y94, .long y92, .ref 621] _ _ _ _
      refine ev_r_virt (pc := 55) (y := 449) (mi := 238) (na := 2) (k := 621) (as := [.long y92, .long y94]) (rest := []) (encc := ev_oU) (Q := ev_PU) (fun x S1 h => jt_238 d (by omega) Q y92 y94  s93 x S1 h) (by exact ev_ob_621) (by decide +kernel) (by decide +kernel) (by decide +kernel) (by decide +kernel) rfl (by (try simp only [ev_sum, ev_nv_cat]); first | done | rfl) ?_
      intro _ s95 _
      show ev_w _ _ _ _ _ [] _ _ _ _
      refine ev_r_goto (pc := 58) (o := 242) (t := 300) (by decide +kernel) (by decide +kernel) ?_
      exact ev_r_return (pc := 300) (x := ()) trivial (by decide +kernel) (by decide +kernel) rfl
  · intro c6
    refine ev_r_aload_n (pc := 18) (k := 0) (v := .ref 621) trivial (by decide +kernel) (by exact (ev_lk_st1 (by rfl) (by decide) rfl)) ?_
    refine ev_r_iload_n (pc := 19) (k := 1) (v := Int32.ofInt x2) (by decide +kernel) (by exact ev_lk_st1_self) ?_
    refine ev_r_virt (pc := 20) (y := 436) (mi := 246) (na := 1) (k := 621) (as := [.int (Int32.ofInt x2)]) (rest := []) (encc := ev_oU) (Q := ev_PU) (fun x S1 h => jt_246 d (by omega) Q x2 hx2 s4 x S1 h) (by exact ev_ob_621) (by decide +kernel) (by decide +kernel) (by decide +kernel) (by decide +kernel) rfl (by (try simp only [ev_sum, ev_nv_cat]); first | done | rfl) ?_
    intro _ s96 _
    show ev_w _ _ _ _ _ [] _ _ _ _
    refine ev_r_aload_n (pc := 23) (k := 0) (v := .ref 621) trivial (by decide +kernel) (by exact (ev_lk_st1 (by rfl) (by decide) rfl)) ?_
    refine ev_r_aload_n (pc := 24) (k := 0) (v := .ref 621) trivial (by decide +kernel) (by exact (ev_lk_st1 (by rfl) (by decide) rfl)) ?_
    refine ev_r_getL (pc := 25) (y := 394) (ci := 13) (f := 41) (fin := 0) (by decide +kernel) (by decide +kernel) (by exact ev_ob_621) rfl ?_
    intro y97
    refine ev_r_aload_n (pc := 28) (k := 0) (v := .ref 621) trivial (by decide +kernel) (by exact (ev_lk_st1 (by rfl) (by decide) rfl)) ?_
    refine ev_r_getL (pc := 29) (y := 398) (ci := 13) (f := 42) (fin := 0) (by decide +kernel) (by decide +kernel) (by exact ev_ob_621) rfl ?_
    intro y98
    refine ev_r_virt (pc := 32) (y := 449) (mi := 238) (na := 2) (k := 621) (as := [.long y97, .long y98]) (rest := []) (encc := ev_oU) (Q := ev_PU) (fun x S1 h => jt_238 d (by omega) Q y97 y98  s96 x S1 h) (by exact ev_ob_621) (by decide +kernel) (by decide +kernel) (by decide +kernel) (by decide +kernel) rfl (by (try simp only [ev_sum, ev_nv_cat]); first | done | rfl) ?_
    intro _ s99 _
    show ev_w _ _ _ _ _ [] _ _ _ _
    refine ev_r_goto (pc := 35) (o := 265) (t := 300) (by decide +kernel) (by decide +kernel) ?_
    exact ev_r_return (pc := 300) (x := ()) trivial (by decide +kernel) (by decide +kernel) rfl
def jb_257_8 (Q : Nat)   (K8 : Int → Int → ev_St → Option ((Int) × ev_St)) (x3 : Int) (x4 : Int) (s9 : ev_St) : Option ((Int) × ev_St) := ev_jn (fun  (s14 : ev_St) => ev_jn (fun (x16 : Int) (x15 : Int) (s19 : ev_St) => ev_b (ev_ior x15 x16) fun x20 => ev_bd (jm_234 Q 1 s19) fun _ s21 => ev_bd (jm_233 Q 0 s21) fun x23 s22 => K8 x20 x23 s22) fun K48 => if x4 ≠ 105 then (if x4 ≠ 115 then (K48 4 x3 s14) else (K48 2 x3 s14)) else (K48 1 x3 s14)) fun K26 => if x4 = 105 then (K26  s9) else (if x4 = 115 then (K26  s9) else (if x4 ≠ 109 then (some (x3, s9)) else (K26  s9)))
def jl_257_8 (Q : Nat)   : Nat → Int → Int → ev_St → Option ((Int) × ev_St)
  | 0 => fun _ _ _ => none
  | q + 1 => jb_257_8 Q   (jl_257_8 Q   q)
theorem jbt_257_8 (d : Nat) (hd : 2 ≤ d + 1) (Q : Nat)     (K8 : Int → Int → ev_St → Option ((Int) × ev_St)) (hK8 : ∀ (x3 : Int) (hx3 : ev_rng x3), ∀ (x4 : Int) (hx4 : ev_rng x4), ∀ (s9 : ev_St) (w5 : List (Nat × Value)), ev_lk w5 0 = some (.ref 621) → ev_lk w5 1 = some (.int (Int32.ofInt x3)) → ev_lk w5 2 = some (.int (Int32.ofInt x4)) → ev_w none (ev_Mof 257) d 8 w5 [] s9 (K8 x3 x4 s9) ev_eI ev_rng) : ∀ (x3 : Int) (hx3 : ev_rng x3), ∀ (x4 : Int) (hx4 : ev_rng x4), ∀ (s9 : ev_St) (w5 : List (Nat × Value)), ev_lk w5 0 = some (.ref 621) → ev_lk w5 1 = some (.int (Int32.ofInt x3)) → ev_lk w5 2 = some (.int (Int32.ofInt x4)) → ev_w none (ev_Mof 257) d 8 w5 [] s9 (jb_257_8 Q   K8 x3 x4 s9) ev_eI ev_rng := by
  intro x3 hx3 x4 hx4 s9 w5 e6 e7 e8
  unfold jb_257_8
  refine ev_r_iload_n (pc := 8) (k := 2) (v := Int32.ofInt x4) (by decide +kernel) (by exact e8) ?_
  refine ev_r_bipush (pc := 9) (k := 105) (by decide +kernel) (by decide +kernel) ?_
  refine ev_r_jn (Q := fun K => ∀ (s14 : ev_St) (w10 : List (Nat × Value)), ev_lk w10 0 = some (.ref 621) → ev_lk w10 1 = some (.int (Int32.ofInt x3)) → ev_lk w10 2 = some (.int (Int32.ofInt x4)) → ev_w none (ev_Mof 257) d 26 w10 [] s14 (K  s14) ev_eI ev_rng) ?_ ?_
  · intro  s14 w10 e11 e12 e13
    refine ev_r_iload_n (pc := 26) (k := 1) (v := Int32.ofInt x3) (by decide +kernel) (by exact e12) ?_
    refine ev_r_iload_n (pc := 27) (k := 2) (v := Int32.ofInt x4) (by decide +kernel) (by exact e13) ?_
    refine ev_r_bipush (pc := 28) (k := 105) (by decide +kernel) (by decide +kernel) ?_
    refine ev_r_jn (Q := fun K => ∀ (x16 : Int) (hx16 : ev_rng x16), ∀ (x15 : Int) (hx15 : ev_rng x15), ∀ (s19 : ev_St) (w17 : List (Nat × Value)), ev_lk w17 0 = some (.ref 621) → ev_w none (ev_Mof 257) d 48 w17 [.int (Int32.ofInt x16), .int (Int32.ofInt x15)] s19 (K x16 x15 s19) ev_eI ev_rng) ?_ ?_
    · intro x16 hx16 x15 hx15 s19 w17 e18
      refine ev_r_ior (pc := 48) (by decide +kernel) ?_
      intro x20 hx20
      refine ev_r_istore_n (pc := 49) (k := 1) (by decide +kernel) (by decide +kernel) rfl ?_
      refine ev_r_aload_n (pc := 50) (k := 0) (v := .ref 621) trivial (by decide +kernel) (by exact (ev_lk_st1 e18 (by decide) rfl)) ?_
      refine ev_r_iconst (pc := 51) (k := 1) (by decide +kernel) ?_
      refine ev_r_virt (pc := 52) (y := 415) (mi := 234) (na := 1) (k := 621) (as := [.int (Int32.ofInt 1)]) (rest := []) (encc := ev_oU) (Q := ev_PU) (fun x S1 h => jt_234 d (by omega) Q 1 (by decide) s19 x S1 h) (by exact ev_ob_621) (by decide +kernel) (by decide +kernel) (by decide +kernel) (by decide +kernel) rfl (by (try simp only [ev_sum, ev_nv_cat]); first | done | rfl) ?_
      intro _ s21 _
      show ev_w _ _ _ _ _ [] _ _ _ _
      refine ev_r_aload_n (pc := 55) (k := 0) (v := .ref 621) trivial (by decide +kernel) (by exact (ev_lk_st1 e18 (by decide) rfl)) ?_
      refine ev_r_iconst (pc := 56) (k := 0) (by decide +kernel) ?_
      refine ev_r_virt (pc := 57) (y := 409) (mi := 233) (na := 1) (k := 621) (as := [.int (Int32.ofInt 0)]) (rest := []) (encc := ev_oI) (Q := ev_rng) (fun x S1 h => jt_233 d (by omega) Q 0 (by decide) s21 x S1 h) (by exact ev_ob_621) (by decide +kernel) (by decide +kernel) (by decide +kernel) (by decide +kernel) rfl (by (try simp only [ev_sum, ev_nv_cat]); first | done | rfl) ?_
      intro x23 s22 hx23
      show ev_w _ _ _ _ _ [.int (Int32.ofInt x23)] _ _ _ _
      refine ev_r_istore_n (pc := 60) (k := 2) (by decide +kernel) (by decide +kernel) rfl ?_
      refine ev_r_goto (pc := 61) (o := (-53)) (t := 8) (by decide +kernel) (by decide +kernel) ?_
      exact hK8 x20 hx20 x23 hx23 s22 _ (by exact (ev_l1 (ev_lk_st1 e18 (by decide) rfl) (by decide) (by decide))) (by exact (ev_lk_st1 ev_lk_st1_self (by decide) rfl)) (by exact ev_lk_st1_self)
    · intro K48 hK48
      refine ev_r_icmp (pc := 30) (q := .ne) (o := 7) (t := 37) (c := x4 ≠ 105) (by decide +kernel) (ev_k_ne hx4 (by decide)) (by decide +kernel) ?_ ?_
      · intro c24
        refine ev_r_iload_n (pc := 37) (k := 2) (v := Int32.ofInt x4) (by decide +kernel) (by exact e13) ?_
        refine ev_r_bipush (pc := 38) (k := 115) (by decide +kernel) (by decide +kernel) ?_
        refine ev_r_icmp (pc := 40) (q := .ne) (o := 7) (t := 47) (c := x4 ≠ 115) (by decide +kernel) (ev_k_ne hx4 (by decide)) (by decide +kernel) ?_ ?_
        · intro c25
          refine ev_r_iconst (pc := 47) (k := 4) (by decide +kernel) ?_
          exact hK48 4 (by decide) x3 hx3 s14 _ (by exact e11)
        · intro c25
          refine ev_r_iconst (pc := 43) (k := 2) (by decide +kernel) ?_
          refine ev_r_goto (pc := 44) (o := 4) (t := 48) (by decide +kernel) (by decide +kernel) ?_
          exact hK48 2 (by decide) x3 hx3 s14 _ (by exact e11)
      · intro c24
        refine ev_r_iconst (pc := 33) (k := 1) (by decide +kernel) ?_
        refine ev_r_goto (pc := 34) (o := 14) (t := 48) (by decide +kernel) (by decide +kernel) ?_
        exact hK48 1 (by decide) x3 hx3 s14 _ (by exact e11)
  · intro K26 hK26
    refine ev_r_icmp (pc := 11) (q := .eq) (o := 15) (t := 26) (c := x4 = 105) (by decide +kernel) (ev_k_eq hx4 (by decide)) (by decide +kernel) ?_ ?_
    · intro c26
      exact hK26  s9 _ (by exact e6) (by exact e7) (by exact e8)
    · intro c26
      refine ev_r_iload_n (pc := 14) (k := 2) (v := Int32.ofInt x4) (by decide +kernel) (by exact e8) ?_
      refine ev_r_bipush (pc := 15) (k := 115) (by decide +kernel) (by decide +kernel) ?_
      refine ev_r_icmp (pc := 17) (q := .eq) (o := 9) (t := 26) (c := x4 = 115) (by decide +kernel) (ev_k_eq hx4 (by decide)) (by decide +kernel) ?_ ?_
      · intro c27
        exact hK26  s9 _ (by exact e6) (by exact e7) (by exact e8)
      · intro c27
        refine ev_r_iload_n (pc := 20) (k := 2) (v := Int32.ofInt x4) (by decide +kernel) (by exact e8) ?_
        refine ev_r_bipush (pc := 21) (k := 109) (by decide +kernel) (by decide +kernel) ?_
        refine ev_r_icmp (pc := 23) (q := .ne) (o := 41) (t := 64) (c := x4 ≠ 109) (by decide +kernel) (ev_k_ne hx4 (by decide)) (by decide +kernel) ?_ ?_
        · intro c28
          refine ev_r_iload_n (pc := 64) (k := 1) (v := Int32.ofInt x3) (by decide +kernel) (by exact e7) ?_
          exact ev_r_ireturn (pc := 65) (x := x3) (v := Int32.ofInt x3) (ty := .int) hx3 (by decide +kernel) (by decide +kernel) rfl rfl
        · intro c28
          exact hK26  s9 _ (by exact e6) (by exact e7) (by exact e8)
theorem jlt_257_8 (d : Nat) (hd : 2 ≤ d + 1) (Q : Nat)     : ∀ q : Nat, ∀ (x3 : Int) (hx3 : ev_rng x3), ∀ (x4 : Int) (hx4 : ev_rng x4), ∀ (s9 : ev_St) (w5 : List (Nat × Value)), ev_lk w5 0 = some (.ref 621) → ev_lk w5 1 = some (.int (Int32.ofInt x3)) → ev_lk w5 2 = some (.int (Int32.ofInt x4)) → ev_w none (ev_Mof 257) d 8 w5 [] s9 (jl_257_8 Q   q x3 x4 s9) ev_eI ev_rng := by
  intro q
  induction q with
  | zero =>
    intro x3 hx3 x4 hx4 s9 w5 e6 e7 e8
    exact ev_w_none
  | succ q ih => exact jbt_257_8 d hd Q     _ ih
/-- MendBenchModel.lettersOf()I -/
def jm_257 (Q : Nat)  (S : ev_St) : Option ((Int) × ev_St) := ev_bd (jm_233 Q 0 S) fun x2 s1 => jl_257_8 Q   Q 0 x2 s1
theorem jt_257 (d : Nat) (hd : 2 ≤ d) (Q : Nat)   (S : ev_St) (x : Int) (S' : ev_St) (hJ : jm_257 Q  S = some (x, S')) : ev_Ref d 257 [.ref 621] S (ev_eI x) S' (ev_rng x) := by
  obtain ⟨d, rfl⟩ : ∃ e, d = e + 1 := ⟨d - 1, by omega⟩
  refine ev_ref_of (P := ev_rng) (lv := [(0, .ref 621)]) (by decide +kernel) (by (try simp only [ev_sum, ev_nv_cat]); first | done | rfl) (by (try simp only [lv_args, ev_nv_cat]); first | done | rfl) ?_ x S' hJ
  unfold jm_257
  refine ev_r_iconst (pc := 0) (k := 0) (by decide +kernel) ?_
  refine ev_r_istore_n (pc := 1) (k := 1) (by decide +kernel) (by decide +kernel) rfl ?_
  refine ev_r_aload_n (pc := 2) (k := 0) (v := .ref 621) trivial (by decide +kernel) (by exact (ev_lk_st1 (by rfl) (by decide) rfl)) ?_
  refine ev_r_iconst (pc := 3) (k := 0) (by decide +kernel) ?_
  refine ev_r_virt (pc := 4) (y := 409) (mi := 233) (na := 1) (k := 621) (as := [.int (Int32.ofInt 0)]) (rest := []) (encc := ev_oI) (Q := ev_rng) (fun x S1 h => jt_233 d (by omega) Q 0 (by decide) S x S1 h) (by exact ev_ob_621) (by decide +kernel) (by decide +kernel) (by decide +kernel) (by decide +kernel) rfl (by (try simp only [ev_sum, ev_nv_cat]); first | done | rfl) ?_
  intro x2 s1 hx2
  show ev_w _ _ _ _ _ [.int (Int32.ofInt x2)] _ _ _ _
  refine ev_r_istore_n (pc := 7) (k := 2) (by decide +kernel) (by decide +kernel) rfl ?_
  exact jlt_257_8 d hd Q     Q 0 (by decide) x2 hx2 s1 _ (by exact (ev_l1 (ev_lk_st1 (by rfl) (by decide) rfl) (by decide) (by decide))) (by exact (ev_lk_st1 ev_lk_st1_self (by decide) rfl)) (by exact ev_lk_st1_self)
/-- MendBenchModel.switches()V -/
def jm_258 (Q : Nat)  (S : ev_St) : Option ((Unit) × ev_St) := ev_bd (jm_257 Q  S) fun x2 s1 => ev_bd (jm_233 Q 0 s1) fun x4 s3 => ev_jn (fun (x5 : Int) (x6 : Int) (s11 : ev_St) => ev_b (s11.1 621 25) fun x12 => ev_jn (fun (x13 : Int) (s18 : ev_St) => ev_if (ev_bl x13) (ev_b (ev_pI s18 621 25 x13) fun s19 => ev_bd (jm_233 Q 0 s19) fun x22 s21 => ev_bd (jm_234 Q 1 s21) fun _ s23 => if x22 ≠ 41 then (if x22 ≠ 58 then (ev_b (ev_pI s23 621 25 1) fun s26 => some ((), s26)) else (ev_bd (jm_237 Q 9 s23) fun x28 s27 => ev_bd (jm_239 Q x28 0 s27) fun _ s29 => ev_b (s29.1 621 40) fun x30 => ev_b (ev_ior x30 x5) fun x31 => ev_b (ev_ixor x6 ((-1))) fun x32 => ev_b (ev_iand x31 x32) fun x33 => ev_b (ev_pI s29 621 40 x33) fun s34 => some ((), s34))) else (ev_b (s23.1 621 40) fun x35 => ev_b (ev_ior x35 x5) fun x36 => ev_b (ev_ixor x6 ((-1))) fun x37 => ev_b (ev_iand x36 x37) fun x38 => ev_b (ev_pI s23 621 40 x38) fun s39 => ev_b (ev_pI s39 621 39 ((-1))) fun s40 => some ((), s40)))) fun K68 => ev_jn (fun  (s45 : ev_St) => K68 1 s45) fun K63 => if x12 ≠ 0 then (K63  s11) else (ev_jn (fun  (s51 : ev_St) => K68 0 s51) fun K67 => if x5 ≠ 0 then (K67  s11) else (if x6 ≠ 0 then (K67  s11) else (K63  s11)))) fun K47 => if x4 ≠ 45 then (K47 x2 0 s3) else (ev_bd (jm_234 Q 1 s3) fun _ s55 => ev_bd (jm_257 Q  s55) fun x57 s56 => ev_b (s56.1 621 25) fun x58 => ev_jn (fun (x59 : Int) (x60 : Int) (s65 : ev_St) => ev_if (ev_bl x60) (ev_b (ev_pI s65 621 25 x60) fun s66 => K47 x2 x59 s66)) fun K44 => ev_jn (fun (x68 : Int) (s73 : ev_St) => K44 x68 1 s73) fun K39 => if x58 ≠ 0 then (K39 x57 s56) else (if x57 ≠ 0 then (K44 x57 0 s56) else (K39 x57 s56)))
theorem jt_258 (d : Nat) (hd : 4 ≤ d) (Q : Nat)   (S : ev_St) (x : Unit) (S' : ev_St) (hJ : jm_258 Q  S = some (x, S')) : ev_Ref d 258 [.ref 621] S (ev_eU x) S' (ev_PU x) := by
  obtain ⟨d, rfl⟩ : ∃ e, d = e + 1 := ⟨d - 1, by omega⟩
  refine ev_ref_of (P := ev_PU) (lv := [(0, .ref 621)]) (by decide +kernel) (by (try simp only [ev_sum, ev_nv_cat]); first | done | rfl) (by (try simp only [lv_args, ev_nv_cat]); first | done | rfl) ?_ x S' hJ
  unfold jm_258
  refine ev_r_aload_n (pc := 0) (k := 0) (v := .ref 621) trivial (by decide +kernel) (by rfl) ?_
  refine ev_r_virt (pc := 1) (y := 453) (mi := 257) (na := 0) (k := 621) (as := []) (rest := []) (encc := ev_oI) (Q := ev_rng) (fun x S1 h => jt_257 d (by omega) Q   S x S1 h) (by exact ev_ob_621) (by decide +kernel) (by decide +kernel) (by decide +kernel) (by decide +kernel) rfl (by (try simp only [ev_sum, ev_nv_cat]); first | done | rfl) ?_
  intro x2 s1 hx2
  show ev_w _ _ _ _ _ [.int (Int32.ofInt x2)] _ _ _ _
  refine ev_r_istore_n (pc := 4) (k := 1) (by decide +kernel) (by decide +kernel) rfl ?_
  refine ev_r_iconst (pc := 5) (k := 0) (by decide +kernel) ?_
  refine ev_r_istore_n (pc := 6) (k := 2) (by decide +kernel) (by decide +kernel) rfl ?_
  refine ev_r_aload_n (pc := 7) (k := 0) (v := .ref 621) trivial (by decide +kernel) (by exact (ev_l1 (ev_lk_st1 (by rfl) (by decide) rfl) (by decide) (by decide))) ?_
  refine ev_r_iconst (pc := 8) (k := 0) (by decide +kernel) ?_
  refine ev_r_virt (pc := 9) (y := 409) (mi := 233) (na := 1) (k := 621) (as := [.int (Int32.ofInt 0)]) (rest := []) (encc := ev_oI) (Q := ev_rng) (fun x S1 h => jt_233 d (by omega) Q 0 (by decide) s1 x S1 h) (by exact ev_ob_621) (by decide +kernel) (by decide +kernel) (by decide +kernel) (by decide +kernel) rfl (by (try simp only [ev_sum, ev_nv_cat]); first | done | rfl) ?_
  intro x4 s3 hx4
  show ev_w _ _ _ _ _ [.int (Int32.ofInt x4)] _ _ _ _
  refine ev_r_bipush (pc := 12) (k := 45) (by decide +kernel) (by decide +kernel) ?_
  refine ev_r_jn (Q := fun K => ∀ (x5 : Int) (hx5 : ev_rng x5), ∀ (x6 : Int) (hx6 : ev_rng x6), ∀ (s11 : ev_St) (w7 : List (Nat × Value)), ev_lk w7 0 = some (.ref 621) → ev_lk w7 1 = some (.int (Int32.ofInt x5)) → ev_lk w7 2 = some (.int (Int32.ofInt x6)) → ev_w none (ev_Mof 258) d 47 w7 [] s11 (K x5 x6 s11) ev_eU ev_PU) ?_ ?_
  · intro x5 hx5 x6 hx6 s11 w7 e8 e9 e10
    refine ev_r_aload_n (pc := 47) (k := 0) (v := .ref 621) trivial (by decide +kernel) (by exact e8) ?_
    refine ev_r_aload_n (pc := 48) (k := 0) (v := .ref 621) trivial (by decide +kernel) (by exact e8) ?_
    refine ev_r_getI (pc := 49) (y := 352) (ci := 13) (f := 25) (fin := 0) (by decide +kernel) (by decide +kernel) (by exact ev_ob_621) rfl ?_
    intro x12 hx12
    refine ev_r_jn (Q := fun K => ∀ (x13 : Int) (hx13 : ev_rng x13), ∀ (s18 : ev_St) (w14 : List (Nat × Value)), ev_lk w14 0 = some (.ref 621) → ev_lk w14 1 = some (.int (Int32.ofInt x5)) → ev_lk w14 2 = some (.int (Int32.ofInt x6)) → ev_w none (ev_Mof 258) d 68 w14 [.int (Int32.ofInt x13), .ref 621] s18 (K x13 s18) ev_eU ev_PU) ?_ ?_
    · intro x13 hx13 s18 w14 e15 e16 e17
      refine ev_r_chk ?_
      intro c20
      refine ev_r_putI (pc := 68) (y := 352) (ci := 13) (f := 25) hx13 (by decide +kernel) (by decide +kernel) (by exact ev_ob_621) rfl (ev_fit_bl c20) ?_
      intro s19
      refine ev_r_aload_n (pc := 71) (k := 0) (v := .ref 621) trivial (by decide +kernel) (by exact e15) ?_
      refine ev_r_iconst (pc := 72) (k := 0) (by decide +kernel) ?_
      refine ev_r_virt (pc := 73) (y := 409) (mi := 233) (na := 1) (k := 621) (as := [.int (Int32.ofInt 0)]) (rest := []) (encc := ev_oI) (Q := ev_rng) (fun x S1 h => jt_233 d (by omega) Q 0 (by decide) s19 x S1 h) (by exact ev_ob_621) (by decide +kernel) (by decide +kernel) (by decide +kernel) (by decide +kernel) rfl (by (try simp only [ev_sum, ev_nv_cat]); first | done | rfl) ?_
      intro x22 s21 hx22
      show ev_w _ _ _ _ _ [.int (Int32.ofInt x22)] _ _ _ _
      refine ev_r_istore_n (pc := 76) (k := 3) (by decide +kernel) (by decide +kernel) rfl ?_
      refine ev_r_aload_n (pc := 77) (k := 0) (v := .ref 621) trivial (by decide +kernel) (by exact (ev_l1 e15 (by decide) (by decide))) ?_
      refine ev_r_iconst (pc := 78) (k := 1) (by decide +kernel) ?_
      refine ev_r_virt (pc := 79) (y := 415) (mi := 234) (na := 1) (k := 621) (as := [.int (Int32.ofInt 1)]) (rest := []) (encc := ev_oU) (Q := ev_PU) (fun x S1 h => jt_234 d (by omega) Q 1 (by decide) s21 x S1 h) (by exact ev_ob_621) (by decide +kernel) (by decide +kernel) (by decide +kernel) (by decide +kernel) rfl (by (try simp only [ev_sum, ev_nv_cat]); first | done | rfl) ?_
      intro _ s23 _
      show ev_w _ _ _ _ _ [] _ _ _ _
      refine ev_r_iload_n (pc := 82) (k := 3) (v := Int32.ofInt x22) (by decide +kernel) (by exact ev_lk_st1_self) ?_
      refine ev_r_bipush (pc := 83) (k := 41) (by decide +kernel) (by decide +kernel) ?_
      refine ev_r_icmp (pc := 85) (q := .ne) (o := 25) (t := 110) (c := x22 ≠ 41) (by decide +kernel) (ev_k_ne hx22 (by decide)) (by decide +kernel) ?_ ?_
      · intro c24
        refine ev_r_iload_n (pc := 110) (k := 3) (v := Int32.ofInt x22) (by decide +kernel) (by exact ev_lk_st1_self) ?_
        refine ev_r_bipush (pc := 111) (k := 58) (by decide +kernel) (by decide +kernel) ?_
        refine ev_r_icmp (pc := 113) (q := .ne) (o := 31) (t := 144) (c := x22 ≠ 58) (by decide +kernel) (ev_k_ne hx22 (by decide)) (by decide +kernel) ?_ ?_
        · intro c25
          refine ev_r_aload_n (pc := 144) (k := 0) (v := .ref 621) trivial (by decide +kernel) (by exact (ev_l1 e15 (by decide) (by decide))) ?_
          refine ev_r_iconst (pc := 145) (k := 1) (by decide +kernel) ?_
          refine ev_r_putI (pc := 146) (y := 352) (ci := 13) (f := 25) (by decide) (by decide +kernel) (by decide +kernel) (by exact ev_ob_621) rfl (ev_fit_bl (by decide : ev_bl 1)) ?_
          intro s26
          exact ev_r_return (pc := 149) (x := ()) trivial (by decide +kernel) (by decide +kernel) rfl
        · intro c25
          refine ev_r_aload_n (pc := 116) (k := 0) (v := .ref 621) trivial (by decide +kernel) (by exact (ev_l1 e15 (by decide) (by decide))) ?_
          refine ev_r_aload_n (pc := 117) (k := 0) (v := .ref 621) trivial (by decide +kernel) (by exact (ev_l1 e15 (by decide) (by decide))) ?_
          refine ev_r_bipush (pc := 118) (k := 9) (by decide +kernel) (by decide +kernel) ?_
          refine ev_r_virt (pc := 120) (y := 378) (mi := 237) (na := 1) (k := 621) (as := [.int (Int32.ofInt 9)]) (rest := [.ref 621]) (encc := ev_oI) (Q := ev_rng) (fun x S1 h => jt_237 d (by omega) Q 9 (by decide) s23 x S1 h) (by exact ev_ob_621) (by decide +kernel) (by decide +kernel) (by decide +kernel) (by decide +kernel) rfl (by (try simp only [ev_sum, ev_nv_cat]); first | done | rfl) ?_
          intro x28 s27 hx28
          show ev_w _ _ _ _ _ [.int (Int32.ofInt x28), .ref 621] _ _ _ _
          refine ev_r_iconst (pc := 123) (k := 0) (by decide +kernel) ?_
          refine ev_r_virt (pc := 124) (y := 456) (mi := 239) (na := 2) (k := 621) (as := [.int (Int32.ofInt x28), .int (Int32.ofInt 0)]) (rest := []) (encc := ev_oU) (Q := ev_PU) (fun x S1 h => jt_239 d (by omega) Q x28 0 hx28 (by decide) s27 x S1 h) (by exact ev_ob_621) (by decide +kernel) (by decide +kernel) (by decide +kernel) (by decide +kernel) rfl (by (try simp only [ev_sum, ev_nv_cat]); first | done | rfl) ?_
          intro _ s29 _
          show ev_w _ _ _ _ _ [] _ _ _ _
          refine ev_r_aload_n (pc := 127) (k := 0) (v := .ref 621) trivial (by decide +kernel) (by exact (ev_l1 e15 (by decide) (by decide))) ?_
          refine ev_r_aload_n (pc := 128) (k := 0) (v := .ref 621) trivial (by decide +kernel) (by exact (ev_l1 e15 (by decide) (by decide))) ?_
          refine ev_r_getI (pc := 129) (y := 384) (ci := 13) (f := 40) (fin := 0) (by decide +kernel) (by decide +kernel) (by exact ev_ob_621) rfl ?_
          intro x30 hx30
          refine ev_r_iload_n (pc := 132) (k := 1) (v := Int32.ofInt x5) (by decide +kernel) (by exact (ev_l1 e16 (by decide) (by decide))) ?_
          refine ev_r_ior (pc := 133) (by decide +kernel) ?_
          intro x31 hx31
          refine ev_r_iload_n (pc := 134) (k := 2) (v := Int32.ofInt x6) (by decide +kernel) (by exact (ev_lk_st1 e17 (by decide) rfl)) ?_
          refine ev_r_iconst (pc := 135) (k := -1) (by decide +kernel) ?_
          refine ev_r_ixor (pc := 136) (by decide +kernel) ?_
          intro x32 hx32
          refine ev_r_iand (pc := 137) (by decide +kernel) ?_
          intro x33 hx33
          refine ev_r_putI (pc := 138) (y := 384) (ci := 13) (f := 40) hx33 (by decide +kernel) (by decide +kernel) (by exact ev_ob_621) rfl rfl ?_
          intro s34
          refine ev_r_goto (pc := 141) (o := 8) (t := 149) (by decide +kernel) (by decide +kernel) ?_
          exact ev_r_return (pc := 149) (x := ()) trivial (by decide +kernel) (by decide +kernel) rfl
      · intro c24
        refine ev_r_aload_n (pc := 88) (k := 0) (v := .ref 621) trivial (by decide +kernel) (by exact (ev_l1 e15 (by decide) (by decide))) ?_
        refine ev_r_aload_n (pc := 89) (k := 0) (v := .ref 621) trivial (by decide +kernel) (by exact (ev_l1 e15 (by decide) (by decide))) ?_
        refine ev_r_getI (pc := 90) (y := 384) (ci := 13) (f := 40) (fin := 0) (by decide +kernel) (by decide +kernel) (by exact ev_ob_621) rfl ?_
        intro x35 hx35
        refine ev_r_iload_n (pc := 93) (k := 1) (v := Int32.ofInt x5) (by decide +kernel) (by exact (ev_l1 e16 (by decide) (by decide))) ?_
        refine ev_r_ior (pc := 94) (by decide +kernel) ?_
        intro x36 hx36
        refine ev_r_iload_n (pc := 95) (k := 2) (v := Int32.ofInt x6) (by decide +kernel) (by exact (ev_lk_st1 e17 (by decide) rfl)) ?_
        refine ev_r_iconst (pc := 96) (k := -1) (by decide +kernel) ?_
        refine ev_r_ixor (pc := 97) (by decide +kernel) ?_
        intro x37 hx37
        refine ev_r_iand (pc := 98) (by decide +kernel) ?_
        intro x38 hx38
        refine ev_r_putI (pc := 99) (y := 384) (ci := 13) (f := 40) hx38 (by decide +kernel) (by decide +kernel) (by exact ev_ob_621) rfl rfl ?_
        intro s39
        refine ev_r_aload_n (pc := 102) (k := 0) (v := .ref 621) trivial (by decide +kernel) (by exact (ev_l1 e15 (by decide) (by decide))) ?_
        refine ev_r_iconst (pc := 103) (k := -1) (by decide +kernel) ?_
        refine ev_r_putI (pc := 104) (y := 375) (ci := 13) (f := 39) (by decide) (by decide +kernel) (by decide +kernel) (by exact ev_ob_621) rfl rfl ?_
        intro s40
        refine ev_r_goto (pc := 107) (o := 42) (t := 149) (by decide +kernel) (by decide +kernel) ?_
        exact ev_r_return (pc := 149) (x := ()) trivial (by decide +kernel) (by decide +kernel) rfl
    · intro K68 hK68
      refine ev_r_jn (Q := fun K => ∀ (s45 : ev_St) (w41 : List (Nat × Value)), ev_lk w41 0 = some (.ref 621) → ev_lk w41 1 = some (.int (Int32.ofInt x5)) → ev_lk w41 2 = some (.int (Int32.ofInt x6)) → ev_w none (ev_Mof 258) d 63 w41 [.ref 621] s45 (K  s45) ev_eU ev_PU) ?_ ?_
      · intro  s45 w41 e42 e43 e44
        refine ev_r_iconst (pc := 63) (k := 1) (by decide +kernel) ?_
        refine ev_r_goto (pc := 64) (o := 4) (t := 68) (by decide +kernel) (by decide +kernel) ?_
        exact hK68 1 (by decide) s45 _ (by exact e42) (by exact e43) (by exact e44)
      · intro K63 hK63
        refine ev_r_if (pc := 52) (q := .ne) (o := 11) (t := 63) (c := x12 ≠ 0) (by decide +kernel) (ev_k_ne hx12 ev_rng0) (by decide +kernel) ?_ ?_
        · intro c46
          exact hK63  s11 _ (by exact e8) (by exact e9) (by exact e10)
        · intro c46
          refine ev_r_iload_n (pc := 55) (k := 1) (v := Int32.ofInt x5) (by decide +kernel) (by exact e9) ?_
          refine ev_r_jn (Q := fun K => ∀ (s51 : ev_St) (w47 : List (Nat × Value)), ev_lk w47 0 = some (.ref 621) → ev_lk w47 1 = some (.int (Int32.ofInt x5)) → ev_lk w47 2 = some (.int (Int32.ofInt x6)) → ev_w none (ev_Mof 258) d 67 w47 [.ref 621] s51 (K  s51) ev_eU ev_PU) ?_ ?_
          · intro  s51 w47 e48 e49 e50
            refine ev_r_iconst (pc := 67) (k := 0) (by decide +kernel) ?_
            exact hK68 0 (by decide) s51 _ (by exact e48) (by exact e49) (by exact e50)
          · intro K67 hK67
            refine ev_r_if (pc := 56) (q := .ne) (o := 11) (t := 67) (c := x5 ≠ 0) (by decide +kernel) (ev_k_ne hx5 ev_rng0) (by decide +kernel) ?_ ?_
            · intro c52
              exact hK67  s11 _ (by exact e8) (by exact e9) (by exact e10)
            · intro c52
              refine ev_r_iload_n (pc := 59) (k := 2) (v := Int32.ofInt x6) (by decide +kernel) (by exact e10) ?_
              refine ev_r_if (pc := 60) (q := .ne) (o := 7) (t := 67) (c := x6 ≠ 0) (by decide +kernel) (ev_k_ne hx6 ev_rng0) (by decide +kernel) ?_ ?_
              · intro c53
                exact hK67  s11 _ (by exact e8) (by exact e9) (by exact e10)
              · intro c53
                exact hK63  s11 _ (by exact e8) (by exact e9) (by exact e10)
  · intro K47 hK47
    refine ev_r_icmp (pc := 14) (q := .ne) (o := 33) (t := 47) (c := x4 ≠ 45) (by decide +kernel) (ev_k_ne hx4 (by decide)) (by decide +kernel) ?_ ?_
    · intro c54
      exact hK47 x2 hx2 0 (by decide) s3 _ (by exact (ev_l1 (ev_lk_st1 (by rfl) (by decide) rfl) (by decide) (by decide))) (by exact (ev_lk_st1 ev_lk_st1_self (by decide) rfl)) (by exact ev_lk_st1_self)
    · intro c54
      refine ev_r_aload_n (pc := 17) (k := 0) (v := .ref 621) trivial (by decide +kernel) (by exact (ev_l1 (ev_lk_st1 (by rfl) (by decide) rfl) (by decide) (by decide))) ?_
      refine ev_r_iconst (pc := 18) (k := 1) (by decide +kernel) ?_
      refine ev_r_virt (pc := 19) (y := 415) (mi := 234) (na := 1) (k := 621) (as := [.int (Int32.ofInt 1)]) (rest := []) (encc := ev_oU) (Q := ev_PU) (fun x S1 h => jt_234 d (by omega) Q 1 (by decide) s3 x S1 h) (by exact ev_ob_621) (by decide +kernel) (by decide +kernel) (by decide +kernel) (by decide +kernel) rfl (by (try simp only [ev_sum, ev_nv_cat]); first | done | rfl) ?_
      intro _ s55 _
      show ev_w _ _ _ _ _ [] _ _ _ _
      refine ev_r_aload_n (pc := 22) (k := 0) (v := .ref 621) trivial (by decide +kernel) (by exact (ev_l1 (ev_lk_st1 (by rfl) (by decide) rfl) (by decide) (by decide))) ?_
      refine ev_r_virt (pc := 23) (y := 453) (mi := 257) (na := 0) (k := 621) (as := []) (rest := []) (encc := ev_oI) (Q := ev_rng) (fun x S1 h => jt_257 d (by omega) Q   s55 x S1 h) (by exact ev_ob_621) (by decide +kernel) (by decide +kernel) (by decide +kernel) (by decide +kernel) rfl (by (try simp only [ev_sum, ev_nv_cat]); first | done | rfl) ?_
      intro x57 s56 hx57
      show ev_w _ _ _ _ _ [.int (Int32.ofInt x57)] _ _ _ _
      refine ev_r_istore_n (pc := 26) (k := 2) (by decide +kernel) (by decide +kernel) rfl ?_
      refine ev_r_aload_n (pc := 27) (k := 0) (v := .ref 621) trivial (by decide +kernel) (by exact (ev_l1 (ev_l1 (ev_lk_st1 (by rfl) (by decide) rfl) (by decide) (by decide)) (by decide) (by decide))) ?_
      refine ev_r_aload_n (pc := 28) (k := 0) (v := .ref 621) trivial (by decide +kernel) (by exact (ev_l1 (ev_l1 (ev_lk_st1 (by rfl) (by decide) rfl) (by decide) (by decide)) (by decide) (by decide))) ?_
      refine ev_r_getI (pc := 29) (y := 352) (ci := 13) (f := 25) (fin := 0) (by decide +kernel) (by decide +kernel) (by exact ev_ob_621) rfl ?_
      intro x58 hx58
      refine ev_r_jn (Q := fun K => ∀ (x59 : Int) (hx59 : ev_rng x59), ∀ (x60 : Int) (hx60 : ev_rng x60), ∀ (s65 : ev_St) (w61 : List (Nat × Value)), ev_lk w61 0 = some (.ref 621) → ev_lk w61 1 = some (.int (Int32.ofInt x2)) → ev_lk w61 2 = some (.int (Int32.ofInt x59)) → ev_w none (ev_Mof 258) d 44 w61 [.int (Int32.ofInt x60), .ref 621] s65 (K x59 x60 s65) ev_eU ev_PU) ?_ ?_
      · intro x59 hx59 x60 hx60 s65 w61 e62 e63 e64
        refine ev_r_chk ?_
        intro c67
        refine ev_r_putI (pc := 44) (y := 352) (ci := 13) (f := 25) hx60 (by decide +kernel) (by decide +kernel) (by exact ev_ob_621) rfl (ev_fit_bl c67) ?_
        intro s66
        exact hK47 x2 hx2 x59 hx59 s66 _ (by exact e62) (by exact e63) (by exact e64)
      · intro K44 hK44
        refine ev_r_jn (Q := fun K => ∀ (x68 : Int) (hx68 : ev_rng x68), ∀ (s73 : ev_St) (w69 : List (Nat × Value)), ev_lk w69 0 = some (.ref 621) → ev_lk w69 1 = some (.int (Int32.ofInt x2)) → ev_lk w69 2 = some (.int (Int32.ofInt x68)) → ev_w none (ev_Mof 258) d 39 w69 [.ref 621] s73 (K x68 s73) ev_eU ev_PU) ?_ ?_
        · intro x68 hx68 s73 w69 e70 e71 e72
          refine ev_r_iconst (pc := 39) (k := 1) (by decide +kernel) ?_
          refine ev_r_goto (pc := 40) (o := 4) (t := 44) (by decide +kernel) (by decide +kernel) ?_
          exact hK44 x68 hx68 1 (by decide) s73 _ (by exact e70) (by exact e71) (by exact e72)
        · intro K39 hK39
          refine ev_r_if (pc := 32) (q := .ne) (o := 7) (t := 39) (c := x58 ≠ 0) (by decide +kernel) (ev_k_ne hx58 ev_rng0) (by decide +kernel) ?_ ?_
          · intro c74
            exact hK39 x57 hx57 s56 _ (by exact (ev_l1 (ev_l1 (ev_lk_st1 (by rfl) (by decide) rfl) (by decide) (by decide)) (by decide) (by decide))) (by exact (ev_lk_st1 (ev_lk_st1 ev_lk_st1_self (by decide) rfl) (by decide) rfl)) (by exact ev_lk_st1_self)
          · intro c74
            refine ev_r_iload_n (pc := 35) (k := 2) (v := Int32.ofInt x57) (by decide +kernel) (by exact ev_lk_st1_self) ?_
            refine ev_r_if (pc := 36) (q := .ne) (o := 7) (t := 43) (c := x57 ≠ 0) (by decide +kernel) (ev_k_ne hx57 ev_rng0) (by decide +kernel) ?_ ?_
            · intro c75
              refine ev_r_iconst (pc := 43) (k := 0) (by decide +kernel) ?_
              exact hK44 x57 hx57 0 (by decide) s56 _ (by exact (ev_l1 (ev_l1 (ev_lk_st1 (by rfl) (by decide) rfl) (by decide) (by decide)) (by decide) (by decide))) (by exact (ev_lk_st1 (ev_lk_st1 ev_lk_st1_self (by decide) rfl) (by decide) rfl)) (by exact ev_lk_st1_self)
            · intro c75
              exact hK39 x57 hx57 s56 _ (by exact (ev_l1 (ev_l1 (ev_lk_st1 (by rfl) (by decide) rfl) (by decide) (by decide)) (by decide) (by decide))) (by exact (ev_lk_st1 (ev_lk_st1 ev_lk_st1_self (by decide) rfl) (by decide) rfl)) (by exact ev_lk_st1_self)
/-- MendBenchModel.group(I)V -/
def jm_259 (Q : Nat) (a0 : Int) (S : ev_St) : Option ((Unit) × ev_St) := ev_if ((0 : Int) ≤ 12 ∧ 12 < (ev_aln 636 : Int)) (ev_b (S.1 636 (Int.toNat 12)) fun x1 => if x1 = 9 then (ev_b (ev_pI S 621 25 1) fun s3 => some ((), s3)) else (ev_jn (fun  (s7 : ev_St) => ev_bd (jm_237 Q 8 s7) fun x9 s8 => ev_if ((0 : Int) ≤ 12 ∧ 12 < (ev_aln 636 : Int)) (ev_b (s8.1 636 (Int.toNat 12)) fun x10 => ev_ck (x10 + 1) fun x11 => ev_if ((0 : Int) ≤ 12 ∧ 12 < (ev_aln 636 : Int)) (ev_b (ev_pI s8 636 (Int.toNat 12) x11) fun s12 => ev_bd (jm_232 Q  s12) fun x14 s13 => ev_ck (x14 + x9) fun x15 => ev_if ((0 : Int) ≤ 12 ∧ 12 < (ev_aln 636 : Int)) (ev_b (s13.1 636 (Int.toNat 12)) fun x16 => ev_if ((0 : Int) ≤ x15 ∧ x15 < (ev_aln 628 : Int)) (ev_b (ev_pI s13 628 (Int.toNat x15) x16) fun s17 => ev_if ((0 : Int) ≤ 12 ∧ 12 < (ev_aln 636 : Int)) (ev_b (s17.1 636 (Int.toNat 12)) fun x18 => ev_ck (120 + x18) fun x19 => ev_if ((0 : Int) ≤ x19 ∧ x19 < (ev_aln 637 : Int)) (ev_b (ev_pI s17 637 (Int.toNat x19) x9) fun s20 => ev_jn (fun (x21 : Int) (s25 : ev_St) => ev_bd (jm_239 Q x21 0 s25) fun _ s26 => some ((), s26)) fun K110 => if a0 = (-1) then (K110 x9 s20) else (ev_ck (312 + a0) fun x28 => ev_if ((0 : Int) ≤ 12 ∧ 12 < (ev_aln 636 : Int)) (ev_b (s20.1 636 (Int.toNat 12)) fun x29 => ev_if ((0 : Int) ≤ x28 ∧ x28 < (ev_aln 638 : Int)) (ev_b (ev_pI s20 638 (Int.toNat x28) x29) fun s30 => K110 x9 s30)))))))))) fun K36 => if a0 = (-1) then (K36  S) else (ev_ck (312 + a0) fun x32 => ev_if ((0 : Int) ≤ x32 ∧ x32 < (ev_aln 638 : Int)) (ev_b (S.1 638 (Int.toNat x32)) fun x33 => if x33 ≤ 0 then (K36  S) else (ev_b (ev_pI S 621 25 1) fun s35 => some ((), s35))))))
theorem jt_259 (d : Nat) (hd : 4 ≤ d) (Q : Nat) (a0 : Int) (ha0 : ev_rng a0) (S : ev_St) (x : Unit) (S' : ev_St) (hJ : jm_259 Q a0 S = some (x, S')) : ev_Ref d 259 [.ref 621, .int (Int32.ofInt a0)] S (ev_eU x) S' (ev_PU x) := by
  obtain ⟨d, rfl⟩ : ∃ e, d = e + 1 := ⟨d - 1, by omega⟩
  refine ev_ref_of (P := ev_PU) (lv := [(0, .ref 621), (1, .int (Int32.ofInt a0))]) (by decide +kernel) (by (try simp only [ev_sum, ev_nv_cat]); first | done | rfl) (by (try simp only [lv_args, ev_nv_cat]); first | done | rfl) ?_ x S' hJ
  unfold jm_259
  refine ev_r_aload_n (pc := 0) (k := 0) (v := .ref 621) trivial (by decide +kernel) (by rfl) ?_
  refine ev_r_getC (pc := 1) (y := 53) (ci := 13) (f := 17) (fin := 1) (k' := 636) (by decide +kernel) (by decide +kernel) (by exact ev_ob_621) rfl rfl ?_
  refine ev_r_bipush (pc := 4) (k := 12) (by decide +kernel) (by decide +kernel) ?_
  refine ev_r_iald (pc := 6) (by decide) (by decide +kernel) (by exact ev_ab_636) ?_
  intro x1 hx1
  refine ev_r_bipush (pc := 7) (k := 9) (by decide +kernel) (by decide +kernel) ?_
  refine ev_r_icmp (pc := 9) (q := .eq) (o := 21) (t := 30) (c := x1 = 9) (by decide +kernel) (ev_k_eq hx1 (by decide)) (by decide +kernel) ?_ ?_
  · intro c2
    refine ev_r_aload_n (pc := 30) (k := 0) (v := .ref 621) trivial (by decide +kernel) (by rfl) ?_
    refine ev_r_iconst (pc := 31) (k := 1) (by decide +kernel) ?_
    refine ev_r_putI (pc := 32) (y := 352) (ci := 13) (f := 25) (by decide) (by decide +kernel) (by decide +kernel) (by exact ev_ob_621) rfl (ev_fit_bl (by decide : ev_bl 1)) ?_
    intro s3
    exact ev_r_return (pc := 35) (x := ()) trivial (by decide +kernel) (by decide +kernel) rfl
  · intro c2
    refine ev_r_iload_n (pc := 12) (k := 1) (v := Int32.ofInt a0) (by decide +kernel) (by rfl) ?_
    refine ev_r_iconst (pc := 13) (k := -1) (by decide +kernel) ?_
    refine ev_r_jn (Q := fun K => ∀ (s7 : ev_St) (w4 : List (Nat × Value)), ev_lk w4 0 = some (.ref 621) → ev_lk w4 1 = some (.int (Int32.ofInt a0)) → ev_w none (ev_Mof 259) d 36 w4 [] s7 (K  s7) ev_eU ev_PU) ?_ ?_
    · intro  s7 w4 e5 e6
      refine ev_r_aload_n (pc := 36) (k := 0) (v := .ref 621) trivial (by decide +kernel) (by exact e5) ?_
      refine ev_r_bipush (pc := 37) (k := 8) (by decide +kernel) (by decide +kernel) ?_
      refine ev_r_virt (pc := 39) (y := 378) (mi := 237) (na := 1) (k := 621) (as := [.int (Int32.ofInt 8)]) (rest := []) (encc := ev_oI) (Q := ev_rng) (fun x S1 h => jt_237 d (by omega) Q 8 (by decide) s7 x S1 h) (by exact ev_ob_621) (by decide +kernel) (by decide +kernel) (by decide +kernel) (by decide +kernel) rfl (by (try simp only [ev_sum, ev_nv_cat]); first | done | rfl) ?_
      intro x9 s8 hx9
      show ev_w _ _ _ _ _ [.int (Int32.ofInt x9)] _ _ _ _
      refine ev_r_istore_n (pc := 42) (k := 2) (by decide +kernel) (by decide +kernel) rfl ?_
      refine ev_r_aload_n (pc := 43) (k := 0) (v := .ref 621) trivial (by decide +kernel) (by exact (ev_l1 e5 (by decide) (by decide))) ?_
      refine ev_r_getC (pc := 44) (y := 53) (ci := 13) (f := 17) (fin := 1) (k' := 636) (by decide +kernel) (by decide +kernel) (by exact ev_ob_621) rfl rfl ?_
      refine ev_r_bipush (pc := 47) (k := 12) (by decide +kernel) (by decide +kernel) ?_
      refine ev_r_dup2 (pc := 49) rfl rfl (by decide +kernel) ?_
      refine ev_r_iald (pc := 50) (by decide) (by decide +kernel) (by exact ev_ab_636) ?_
      intro x10 hx10
      refine ev_r_iconst (pc := 51) (k := 1) (by decide +kernel) ?_
      refine ev_r_iadd (pc := 52) (by decide +kernel) ?_
      intro x11 hx11
      refine ev_r_iast (pc := 53) hx11 (by decide) (by decide +kernel) (by exact ev_ab_636) ?_
      intro s12
      refine ev_r_aload_n (pc := 54) (k := 0) (v := .ref 621) trivial (by decide +kernel) (by exact (ev_l1 e5 (by decide) (by decide))) ?_
      refine ev_r_getC (pc := 55) (y := 28) (ci := 13) (f := 9) (fin := 1) (k' := 628) (by decide +kernel) (by decide +kernel) (by exact ev_ob_621) rfl rfl ?_
      refine ev_r_aload_n (pc := 58) (k := 0) (v := .ref 621) trivial (by decide +kernel) (by exact (ev_l1 e5 (by decide) (by decide))) ?_
      refine ev_r_virt (pc := 59) (y := 356) (mi := 232) (na := 0) (k := 621) (as := []) (rest := [.ref 628]) (encc := ev_oI) (Q := ev_rng) (fun x S1 h => jt_232 d (by omega) Q   s12 x S1 h) (by exact ev_ob_621) (by decide +kernel) (by decide +kernel) (by decide +kernel) (by decide +kernel) rfl (by (try simp only [ev_sum, ev_nv_cat]); first | done | rfl) ?_
      intro x14 s13 hx14
      show ev_w _ _ _ _ _ [.int (Int32.ofInt x14), .ref 628] _ _ _ _
      refine ev_r_iload_n (pc := 62) (k := 2) (v := Int32.ofInt x9) (by decide +kernel) (by exact ev_lk_st1_self) ?_
      refine ev_r_iadd (pc := 63) (by decide +kernel) ?_
      intro x15 hx15
      refine ev_r_aload_n (pc := 64) (k := 0) (v := .ref 621) trivial (by decide +kernel) (by exact (ev_l1 e5 (by decide) (by decide))) ?_
      refine ev_r_getC (pc := 65) (y := 53) (ci := 13) (f := 17) (fin := 1) (k' := 636) (by decide +kernel) (by decide +kernel) (by exact ev_ob_621) rfl rfl ?_
      refine ev_r_bipush (pc := 68) (k := 12) (by decide +kernel) (by decide +kernel) ?_
      refine ev_r_iald (pc := 70) (by decide) (by decide +kernel) (by exact ev_ab_636) ?_
      intro x16 hx16
      refine ev_r_iast (pc := 71) hx16 hx15 (by decide +kernel) (by exact ev_ab_628) ?_
      intro s17
      refine ev_r_aload_n (pc := 72) (k := 0) (v := .ref 621) trivial (by decide +kernel) (by exact (ev_l1 e5 (by decide) (by decide))) ?_
      refine ev_r_getC (pc := 73) (y := 56) (ci := 13) (f := 18) (fin := 1) (k' := 637) (by decide +kernel) (by decide +kernel) (by exact ev_ob_621) rfl rfl ?_
      refine ev_r_bipush (pc := 76) (k := 120) (by decide +kernel) (by decide +kernel) ?_
      refine ev_r_aload_n (pc := 78) (k := 0) (v := .ref 621) trivial (by decide +kernel) (by exact (ev_l1 e5 (by decide) (by decide))) ?_
      refine ev_r_getC (pc := 79) (y := 53) (ci := 13) (f := 17) (fin := 1) (k' := 636) (by decide +kernel) (by decide +kernel) (by exact ev_ob_621) rfl rfl ?_
      refine ev_r_bipush (pc := 82) (k := 12) (by decide +kernel) (by decide +kernel) ?_
      refine ev_r_iald (pc := 84) (by decide) (by decide +kernel) (by exact ev_ab_636) ?_
      intro x18 hx18
      refine ev_r_iadd (pc := 85) (by decide +kernel) ?_
      intro x19 hx19
      refine ev_r_iload_n (pc := 86) (k := 2) (v := Int32.ofInt x9) (by decide +kernel) (by exact ev_lk_st1_self) ?_
      refine ev_r_iast (pc := 87) hx9 hx19 (by decide +kernel) (by exact ev_ab_637) ?_
      intro s20
      refine ev_r_iload_n (pc := 88) (k := 1) (v := Int32.ofInt a0) (by decide +kernel) (by exact (ev_lk_st1 e6 (by decide) rfl)) ?_
      refine ev_r_iconst (pc := 89) (k := -1) (by decide +kernel) ?_
      refine ev_r_jn (Q := fun K => ∀ (x21 : Int) (hx21 : ev_rng x21), ∀ (s25 : ev_St) (w22 : List (Nat × Value)), ev_lk w22 0 = some (.ref 621) → ev_lk w22 2 = some (.int (Int32.ofInt x21)) → ev_w none (ev_Mof 259) d 110 w22 [] s25 (K x21 s25) ev_eU ev_PU) ?_ ?_
      · intro x21 hx21 s25 w22 e23 e24
        refine ev_r_aload_n (pc := 110) (k := 0) (v := .ref 621) trivial (by decide +kernel) (by exact e23) ?_
        refine ev_r_iload_n (pc := 111) (k := 2) (v := Int32.ofInt x21) (by decide +kernel) (by exact e24) ?_
        refine ev_r_iconst (pc := 112) (k := 0) (by decide +kernel) ?_
        refine ev_r_virt (pc := 113) (y := 456) (mi := 239) (na := 2) (k := 621) (as := [.int (Int32.ofInt x21), .int (Int32.ofInt 0)]) (rest := []) (encc := ev_oU) (Q := ev_PU) (fun x S1 h => jt_239 d (by omega) Q x21 0 hx21 (by decide) s25 x S1 h) (by exact ev_ob_621) (by decide +kernel) (by decide +kernel) (by decide +kernel) (by decide +kernel) rfl (by (try simp only [ev_sum, ev_nv_cat]); first | done | rfl) ?_
        intro _ s26 _
        show ev_w _ _ _ _ _ [] _ _ _ _
        exact ev_r_return (pc := 116) (x := ()) trivial (by decide +kernel) (by decide +kernel) rfl
      · intro K110 hK110
        refine ev_r_icmp (pc := 90) (q := .eq) (o := 20) (t := 110) (c := a0 = (-1)) (by decide +kernel) (ev_k_eq ha0 (by decide)) (by decide +kernel) ?_ ?_
        · intro c27
          exact hK110 x9 hx9 s20 _ (by exact (ev_l1 e5 (by decide) (by decide))) (by exact ev_lk_st1_self)
        · intro c27
          refine ev_r_aload_n (pc := 93) (k := 0) (v := .ref 621) trivial (by decide +kernel) (by exact (ev_l1 e5 (by decide) (by decide))) ?_
          refine ev_r_getC (pc := 94) (y := 59) (ci := 13) (f := 19) (fin := 1) (k' := 638) (by decide +kernel) (by decide +kernel) (by exact ev_ob_621) rfl rfl ?_
          refine ev_r_sipush (pc := 97) (k := 312) (by decide +kernel) (by decide +kernel) ?_
          refine ev_r_iload_n (pc := 100) (k := 1) (v := Int32.ofInt a0) (by decide +kernel) (by exact (ev_lk_st1 e6 (by decide) rfl)) ?_
          refine ev_r_iadd (pc := 101) (by decide +kernel) ?_
          intro x28 hx28
          refine ev_r_aload_n (pc := 102) (k := 0) (v := .ref 621) trivial (by decide +kernel) (by exact (ev_l1 e5 (by decide) (by decide))) ?_
          refine ev_r_getC (pc := 103) (y := 53) (ci := 13) (f := 17) (fin := 1) (k' := 636) (by decide +kernel) (by decide +kernel) (by exact ev_ob_621) rfl rfl ?_
          refine ev_r_bipush (pc := 106) (k := 12) (by decide +kernel) (by decide +kernel) ?_
          refine ev_r_iald (pc := 108) (by decide) (by decide +kernel) (by exact ev_ab_636) ?_
          intro x29 hx29
          refine ev_r_iast (pc := 109) hx29 hx28 (by decide +kernel) (by exact ev_ab_638) ?_
          intro s30
          exact hK110 x9 hx9 s30 _ (by exact (ev_l1 e5 (by decide) (by decide))) (by exact ev_lk_st1_self)
    · intro K36 hK36
      refine ev_r_icmp (pc := 14) (q := .eq) (o := 22) (t := 36) (c := a0 = (-1)) (by decide +kernel) (ev_k_eq ha0 (by decide)) (by decide +kernel) ?_ ?_
      · intro c31
        exact hK36  S _ (by rfl) (by rfl)
      · intro c31
        refine ev_r_aload_n (pc := 17) (k := 0) (v := .ref 621) trivial (by decide +kernel) (by rfl) ?_
        refine ev_r_getC (pc := 18) (y := 59) (ci := 13) (f := 19) (fin := 1) (k' := 638) (by decide +kernel) (by decide +kernel) (by exact ev_ob_621) rfl rfl ?_
        refine ev_r_sipush (pc := 21) (k := 312) (by decide +kernel) (by decide +kernel) ?_
        refine ev_r_iload_n (pc := 24) (k := 1) (v := Int32.ofInt a0) (by decide +kernel) (by rfl) ?_
        refine ev_r_iadd (pc := 25) (by decide +kernel) ?_
        intro x32 hx32
        refine ev_r_iald (pc := 26) hx32 (by decide +kernel) (by exact ev_ab_638) ?_
        intro x33 hx33
        refine ev_r_if (pc := 27) (q := .le) (o := 9) (t := 36) (c := x33 ≤ 0) (by decide +kernel) (ev_k_le hx33 ev_rng0) (by decide +kernel) ?_ ?_
        · intro c34
          exact hK36  S _ (by rfl) (by rfl)
        · intro c34
          refine ev_r_aload_n (pc := 30) (k := 0) (v := .ref 621) trivial (by decide +kernel) (by rfl) ?_
          refine ev_r_iconst (pc := 31) (k := 1) (by decide +kernel) ?_
          refine ev_r_putI (pc := 32) (y := 352) (ci := 13) (f := 25) (by decide) (by decide +kernel) (by decide +kernel) (by exact ev_ob_621) rfl (ev_fit_bl (by decide : ev_bl 1)) ?_
          intro s35
          exact ev_r_return (pc := 35) (x := ()) trivial (by decide +kernel) (by decide +kernel) rfl
def jb_260_18 (Q : Nat) (a0 : Int)  (K18 : Int → Int → ev_St → Option ((Unit) × ev_St)) (x7 : Int) (x8 : Int) (s14 : ev_St) : Option ((Unit) × ev_St) := ev_b (s14.1 621 28) fun x15 => if x15 < x8 then (if x7 = 0 then (ev_b (ev_pI s14 621 25 1) fun s18 => some ((), s18)) else (ev_b (s14.1 621 26) fun x19 => if x19 = a0 then (ev_b (ev_pI s14 621 25 1) fun s21 => some ((), s21)) else (ev_b (s14.1 621 28) fun x22 => if x22 ≠ 27 then (ev_bd (jm_237 Q 9 s14) fun x25 s24 => ev_bd (jm_239 Q x25 1 s24) fun _ s26 => ev_b (s26.1 621 28) fun x27 => ev_ck (x27 + 1) fun x28 => ev_b (ev_pI s26 621 28 x28) fun s29 => ev_b (s29.1 621 28) fun x30 => ev_if ((0 : Int) ≤ x30 ∧ x30 < (ev_aln 644 : Int)) (ev_b (ev_pI s29 644 (Int.toNat x30) a0) fun s31 => ev_b (s31.1 621 28) fun x32 => ev_if ((0 : Int) ≤ x32 ∧ x32 < (ev_aln 645 : Int)) (ev_b (ev_pI s31 645 (Int.toNat x32) 0) fun s33 => some ((), s33)))) else (ev_b (ev_pI s14 621 25 1) fun s34 => some ((), s34))))) else (ev_jn (fun (x35 : Int) (s40 : ev_St) => ev_ck (x8 + 1) fun x41 => K18 x35 x41 s40) fun K45 => ev_jn (fun  (s46 : ev_St) => K45 0 s46) fun K44 => if x7 = 0 then (K44  s14) else (ev_if ((0 : Int) ≤ x8 ∧ x8 < (ev_aln 644 : Int)) (ev_b (s14.1 644 (Int.toNat x8)) fun x48 => if x48 = a0 then (K44  s14) else (K45 1 s14))))
def jl_260_18 (Q : Nat) (a0 : Int)  : Nat → Int → Int → ev_St → Option ((Unit) × ev_St)
  | 0 => fun _ _ _ => none
  | q + 1 => jb_260_18 Q a0  (jl_260_18 Q a0  q)
theorem jbt_260_18 (d : Nat) (hd : 4 ≤ d + 1) (Q : Nat) (a0 : Int) (ha0 : ev_rng a0)   (K18 : Int → Int → ev_St → Option ((Unit) × ev_St)) (hK18 : ∀ (x7 : Int) (hx7 : ev_rng x7), ∀ (x8 : Int) (hx8 : ev_rng x8), ∀ (s14 : ev_St) (w9 : List (Nat × Value)), ev_lk w9 0 = some (.ref 621) → ev_lk w9 1 = some (.int (Int32.ofInt a0)) → ev_lk w9 2 = some (.int (Int32.ofInt x7)) → ev_lk w9 3 = some (.int (Int32.ofInt x8)) → ev_w none (ev_Mof 260) d 18 w9 [] s14 (K18 x7 x8 s14) ev_eU ev_PU) : ∀ (x7 : Int) (hx7 : ev_rng x7), ∀ (x8 : Int) (hx8 : ev_rng x8), ∀ (s14 : ev_St) (w9 : List (Nat × Value)), ev_lk w9 0 = some (.ref 621) → ev_lk w9 1 = some (.int (Int32.ofInt a0)) → ev_lk w9 2 = some (.int (Int32.ofInt x7)) → ev_lk w9 3 = some (.int (Int32.ofInt x8)) → ev_w none (ev_Mof 260) d 18 w9 [] s14 (jb_260_18 Q a0  K18 x7 x8 s14) ev_eU ev_PU := by
  intro x7 hx7 x8 hx8 s14 w9 e10 e11 e12 e13
  unfold jb_260_18
  refine ev_r_iload_n (pc := 18) (k := 3) (v := Int32.ofInt x8) (by decide +kernel) (by exact e13) ?_
  refine ev_r_aload_n (pc := 19) (k := 0) (v := .ref 621) trivial (by decide +kernel) (by exact e10) ?_
  refine ev_r_getI (pc := 20) (y := 349) (ci := 13) (f := 28) (fin := 0) (by decide +kernel) (by decide +kernel) (by exact ev_ob_621) rfl ?_
  intro x15 hx15
  refine ev_r_icmp (pc := 23) (q := .gt) (o := 29) (t := 52) (c := x15 < x8) (by decide +kernel) (ev_k_gt hx8 hx15) (by decide +kernel) ?_ ?_
  · intro c16
    refine ev_r_iload_n (pc := 52) (k := 2) (v := Int32.ofInt x7) (by decide +kernel) (by exact e12) ?_
    refine ev_r_if (pc := 53) (q := .eq) (o := 20) (t := 73) (c := x7 = 0) (by decide +kernel) (ev_k_eq hx7 ev_rng0) (by decide +kernel) ?_ ?_
    · intro c17
      refine ev_r_aload_n (pc := 73) (k := 0) (v := .ref 621) trivial (by decide +kernel) (by exact e10) ?_
      refine ev_r_iconst (pc := 74) (k := 1) (by decide +kernel) ?_
      refine ev_r_putI (pc := 75) (y := 352) (ci := 13) (f := 25) (by decide) (by decide +kernel) (by decide +kernel) (by exact ev_ob_621) rfl (ev_fit_bl (by decide : ev_bl 1)) ?_
      intro s18
      exact ev_r_return (pc := 78) (x := ()) trivial (by decide +kernel) (by decide +kernel) rfl
    · intro c17
      refine ev_r_aload_n (pc := 56) (k := 0) (v := .ref 621) trivial (by decide +kernel) (by exact e10) ?_
      refine ev_r_getI (pc := 57) (y := 460) (ci := 13) (f := 26) (fin := 0) (by decide +kernel) (by decide +kernel) (by exact ev_ob_621) rfl ?_
      intro x19 hx19
      refine ev_r_iload_n (pc := 60) (k := 1) (v := Int32.ofInt a0) (by decide +kernel) (by exact e11) ?_
      refine ev_r_icmp (pc := 61) (q := .eq) (o := 12) (t := 73) (c := x19 = a0) (by decide +kernel) (ev_k_eq hx19 ha0) (by decide +kernel) ?_ ?_
      · intro c20
        refine ev_r_aload_n (pc := 73) (k := 0) (v := .ref 621) trivial (by decide +kernel) (by exact e10) ?_
        refine ev_r_iconst (pc := 74) (k := 1) (by decide +kernel) ?_
        refine ev_r_putI (pc := 75) (y := 352) (ci := 13) (f := 25) (by decide) (by decide +kernel) (by decide +kernel) (by exact ev_ob_621) rfl (ev_fit_bl (by decide : ev_bl 1)) ?_
        intro s21
        exact ev_r_return (pc := 78) (x := ()) trivial (by decide +kernel) (by decide +kernel) rfl
      · intro c20
        refine ev_r_aload_n (pc := 64) (k := 0) (v := .ref 621) trivial (by decide +kernel) (by exact e10) ?_
        refine ev_r_getI (pc := 65) (y := 349) (ci := 13) (f := 28) (fin := 0) (by decide +kernel) (by decide +kernel) (by exact ev_ob_621) rfl ?_
        intro x22 hx22
        refine ev_r_bipush (pc := 68) (k := 27) (by decide +kernel) (by decide +kernel) ?_
        refine ev_r_icmp (pc := 70) (q := .ne) (o := 9) (t := 79) (c := x22 ≠ 27) (by decide +kernel) (ev_k_ne hx22 (by decide)) (by decide +kernel) ?_ ?_
        · intro c23
          refine ev_r_aload_n (pc := 79) (k := 0) (v := .ref 621) trivial (by decide +kernel) (by exact e10) ?_
          refine ev_r_aload_n (pc := 80) (k := 0) (v := .ref 621) trivial (by decide +kernel) (by exact e10) ?_
          refine ev_r_bipush (pc := 81) (k := 9) (by decide +kernel) (by decide +kernel) ?_
          refine ev_r_virt (pc := 83) (y := 378) (mi := 237) (na := 1) (k := 621) (as := [.int (Int32.ofInt 9)]) (rest := [.ref 621]) (encc := ev_oI) (Q := ev_rng) (fun x S1 h => jt_237 d (by omega) Q 9 (by decide) s14 x S1 h) (by exact ev_ob_621) (by decide +kernel) (by decide +kernel) (by decide +kernel) (by decide +kernel) rfl (by (try simp only [ev_sum, ev_nv_cat]); first | done | rfl) ?_
          intro x25 s24 hx25
          show ev_w _ _ _ _ _ [.int (Int32.ofInt x25), .ref 621] _ _ _ _
          refine ev_r_iconst (pc := 86) (k := 1) (by decide +kernel) ?_
          refine ev_r_virt (pc := 87) (y := 456) (mi := 239) (na := 2) (k := 621) (as := [.int (Int32.ofInt x25), .int (Int32.ofInt 1)]) (rest := []) (encc := ev_oU) (Q := ev_PU) (fun x S1 h => jt_239 d (by omega) Q x25 1 hx25 (by decide) s24 x S1 h) (by exact ev_ob_621) (by decide +kernel) (by decide +kernel) (by decide +kernel) (by decide +kernel) rfl (by (try simp only [ev_sum, ev_nv_cat]); first | done | rfl) ?_
          intro _ s26 _
          show ev_w _ _ _ _ _ [] _ _ _ _
          refine ev_r_aload_n (pc := 90) (k := 0) (v := .ref 621) trivial (by decide +kernel) (by exact e10) ?_
          refine ev_r_dup (pc := 91) rfl (by decide +kernel) ?_
          refine ev_r_getI (pc := 92) (y := 349) (ci := 13) (f := 28) (fin := 0) (by decide +kernel) (by decide +kernel) (by exact ev_ob_621) rfl ?_
          intro x27 hx27
          refine ev_r_iconst (pc := 95) (k := 1) (by decide +kernel) ?_
          refine ev_r_iadd (pc := 96) (by decide +kernel) ?_
          intro x28 hx28
          refine ev_r_putI (pc := 97) (y := 349) (ci := 13) (f := 28) hx28 (by decide +kernel) (by decide +kernel) (by exact ev_ob_621) rfl rfl ?_
          intro s29
          refine ev_r_aload_n (pc := 100) (k := 0) (v := .ref 621) trivial (by decide +kernel) (by exact e10) ?_
          refine ev_r_getC (pc := 101) (y := 77) (ci := 13) (f := 29) (fin := 1) (k' := 644) (by decide +kernel) (by decide +kernel) (by exact ev_ob_621) rfl rfl ?_
          refine ev_r_aload_n (pc := 104) (k := 0) (v := .ref 621) trivial (by decide +kernel) (by exact e10) ?_
          refine ev_r_getI (pc := 105) (y := 349) (ci := 13) (f := 28) (fin := 0) (by decide +kernel) (by decide +kernel) (by exact ev_ob_621) rfl ?_
          intro x30 hx30
          refine ev_r_iload_n (pc := 108) (k := 1) (v := Int32.ofInt a0) (by decide +kernel) (by exact e11) ?_
          refine ev_r_iast (pc := 109) ha0 hx30 (by decide +kernel) (by exact ev_ab_644) ?_
          intro s31
          refine ev_r_aload_n (pc := 110) (k := 0) (v := .ref 621) trivial (by decide +kernel) (by exact e10) ?_
          refine ev_r_getC (pc := 111) (y := 80) (ci := 13) (f := 30) (fin := 1) (k' := 645) (by decide +kernel) (by decide +kernel) (by exact ev_ob_621) rfl rfl ?_
          refine ev_r_aload_n (pc := 114) (k := 0) (v := .ref 621) trivial (by decide +kernel) (by exact e10) ?_
          refine ev_r_getI (pc := 115) (y := 349) (ci := 13) (f := 28) (fin := 0) (by decide +kernel) (by decide +kernel) (by exact ev_ob_621) rfl ?_
          intro x32 hx32
          refine ev_r_iconst (pc := 118) (k := 0) (by decide +kernel) ?_
          refine ev_r_iast (pc := 119) (by decide) hx32 (by decide +kernel) (by exact ev_ab_645) ?_
          intro s33
          exact ev_r_return (pc := 120) (x := ()) trivial (by decide +kernel) (by decide +kernel) rfl
        · intro c23
          refine ev_r_aload_n (pc := 73) (k := 0) (v := .ref 621) trivial (by decide +kernel) (by exact e10) ?_
          refine ev_r_iconst (pc := 74) (k := 1) (by decide +kernel) ?_
          refine ev_r_putI (pc := 75) (y := 352) (ci := 13) (f := 25) (by decide) (by decide +kernel) (by decide +kernel) (by exact ev_ob_621) rfl (ev_fit_bl (by decide : ev_bl 1)) ?_
          intro s34
          exact ev_r_return (pc := 78) (x := ()) trivial (by decide +kernel) (by decide +kernel) rfl
  · intro c16
    refine ev_r_iload_n (pc := 26) (k := 2) (v := Int32.ofInt x7) (by decide +kernel) (by exact e12) ?_
    refine ev_r_jn (Q := fun K => ∀ (x35 : Int) (hx35 : ev_rng x35), ∀ (s40 : ev_St) (w36 : List (Nat × Value)), ev_lk w36 0 = some (.ref 621) → ev_lk w36 1 = some (.int (Int32.ofInt a0)) → ev_lk w36 3 = some (.int (Int32.ofInt x8)) → ev_w none (ev_Mof 260) d 45 w36 [.int (Int32.ofInt x35)] s40 (K x35 s40) ev_eU ev_PU) ?_ ?_
    · intro x35 hx35 s40 w36 e37 e38 e39
      refine ev_r_istore_n (pc := 45) (k := 2) (by decide +kernel) (by decide +kernel) rfl ?_
      refine ev_r_iinc (pc := 46) (k := 3) (c := 1) (x := x8) (by decide +kernel) (by decide +kernel) (by exact (ev_l1 e39 (by decide) (by decide))) (fun _ => rfl) ?_
      intro x41 hx41
      refine ev_r_goto (pc := 49) (o := (-31)) (t := 18) (by decide +kernel) (by decide +kernel) ?_
      exact hK18 x35 hx35 x41 hx41 s40 _ (by exact (ev_l1 (ev_l1 e37 (by decide) (by decide)) (by decide) (by decide))) (by exact (ev_l1 (ev_lk_st1 e38 (by decide) rfl) (by decide) (by decide))) (by exact (ev_lk_st1 ev_lk_st1_self (by decide) rfl)) (by exact ev_lk_st1_self)
    · intro K45 hK45
      refine ev_r_jn (Q := fun K => ∀ (s46 : ev_St) (w42 : List (Nat × Value)), ev_lk w42 0 = some (.ref 621) → ev_lk w42 1 = some (.int (Int32.ofInt a0)) → ev_lk w42 3 = some (.int (Int32.ofInt x8)) → ev_w none (ev_Mof 260) d 44 w42 [] s46 (K  s46) ev_eU ev_PU) ?_ ?_
      · intro  s46 w42 e43 e44 e45
        refine ev_r_iconst (pc := 44) (k := 0) (by decide +kernel) ?_
        exact hK45 0 (by decide) s46 _ (by exact e43) (by exact e44) (by exact e45)
      · intro K44 hK44
        refine ev_r_if (pc := 27) (q := .eq) (o := 17) (t := 44) (c := x7 = 0) (by decide +kernel) (ev_k_eq hx7 ev_rng0) (by decide +kernel) ?_ ?_
        · intro c47
          exact hK44  s14 _ (by exact e10) (by exact e11) (by exact e13)
        · intro c47
          refine ev_r_aload_n (pc := 30) (k := 0) (v := .ref 621) trivial (by decide +kernel) (by exact e10) ?_
          refine ev_r_getC (pc := 31) (y := 77) (ci := 13) (f := 29) (fin := 1) (k' := 644) (by decide +kernel) (by decide +kernel) (by exact ev_ob_621) rfl rfl ?_
          refine ev_r_iload_n (pc := 34) (k := 3) (v := Int32.ofInt x8) (by decide +kernel) (by exact e13) ?_
          refine ev_r_iald (pc := 35) hx8 (by decide +kernel) (by exact ev_ab_644) ?_
          intro x48 hx48
          refine ev_r_iload_n (pc := 36) (k := 1) (v := Int32.ofInt a0) (by decide +kernel) (by exact e11) ?_
          refine ev_r_icmp (pc := 37) (q := .eq) (o := 7) (t := 44) (c := x48 = a0) (by decide +kernel) (ev_k_eq hx48 ha0) (by decide +kernel) ?_ ?_
          · intro c49
            exact hK44  s14 _ (by exact e10) (by exact e11) (by exact e13)
          · intro c49
            refine ev_r_iconst (pc := 40) (k := 1) (by decide +kernel) ?_
            refine ev_r_goto (pc := 41) (o := 4) (t := 45) (by decide +kernel) (by decide +kernel) ?_
            exact hK45 1 (by decide) s14 _ (by exact e10) (by exact e11) (by exact e13)
theorem jlt_260_18 (d : Nat) (hd : 4 ≤ d + 1) (Q : Nat) (a0 : Int) (ha0 : ev_rng a0)   : ∀ q : Nat, ∀ (x7 : Int) (hx7 : ev_rng x7), ∀ (x8 : Int) (hx8 : ev_rng x8), ∀ (s14 : ev_St) (w9 : List (Nat × Value)), ev_lk w9 0 = some (.ref 621) → ev_lk w9 1 = some (.int (Int32.ofInt a0)) → ev_lk w9 2 = some (.int (Int32.ofInt x7)) → ev_lk w9 3 = some (.int (Int32.ofInt x8)) → ev_w none (ev_Mof 260) d 18 w9 [] s14 (jl_260_18 Q a0  q x7 x8 s14) ev_eU ev_PU := by
  intro q
  induction q with
  | zero =>
    intro x7 hx7 x8 hx8 s14 w9 e10 e11 e12 e13
    exact ev_w_none
  | succ q ih => exact jbt_260_18 d hd Q a0 ha0   _ ih
/-- MendBenchModel.includes(I)V -/
def jm_260 (Q : Nat) (a0 : Int) (S : ev_St) : Option ((Unit) × ev_St) := ev_if ((0 : Int) ≤ a0 ∧ a0 < (ev_aln 623 : Int)) (ev_b (S.1 623 (Int.toNat a0)) fun x1 => ev_jn (fun (x2 : Int) (s6 : ev_St) => jl_260_18 Q a0  Q x2 0 s6) fun K15 => if x1 = (-1) then (K15 0 S) else (K15 1 S))
theorem jt_260 (d : Nat) (hd : 4 ≤ d) (Q : Nat) (a0 : Int) (ha0 : ev_rng a0) (S : ev_St) (x : Unit) (S' : ev_St) (hJ : jm_260 Q a0 S = some (x, S')) : ev_Ref d 260 [.ref 621, .int (Int32.ofInt a0)] S (ev_eU x) S' (ev_PU x) := by
  obtain ⟨d, rfl⟩ : ∃ e, d = e + 1 := ⟨d - 1, by omega⟩
  refine ev_ref_of (P := ev_PU) (lv := [(0, .ref 621), (1, .int (Int32.ofInt a0))]) (by decide +kernel) (by (try simp only [ev_sum, ev_nv_cat]); first | done | rfl) (by (try simp only [lv_args, ev_nv_cat]); first | done | rfl) ?_ x S' hJ
  unfold jm_260
  refine ev_r_aload_n (pc := 0) (k := 0) (v := .ref 621) trivial (by decide +kernel) (by rfl) ?_
  refine ev_r_getC (pc := 1) (y := 13) (ci := 13) (f := 3) (fin := 1) (k' := 623) (by decide +kernel) (by decide +kernel) (by exact ev_ob_621) rfl rfl ?_
  refine ev_r_iload_n (pc := 4) (k := 1) (v := Int32.ofInt a0) (by decide +kernel) (by rfl) ?_
  refine ev_r_iald (pc := 5) ha0 (by decide +kernel) (by exact ev_ab_623) ?_
  intro x1 hx1
  refine ev_r_iconst (pc := 6) (k := -1) (by decide +kernel) ?_
  refine ev_r_jn (Q := fun K => ∀ (x2 : Int) (hx2 : ev_rng x2), ∀ (s6 : ev_St) (w3 : List (Nat × Value)), ev_lk w3 0 = some (.ref 621) → ev_lk w3 1 = some (.int (Int32.ofInt a0)) → ev_w none (ev_Mof 260) d 15 w3 [.int (Int32.ofInt x2)] s6 (K x2 s6) ev_eU ev_PU) ?_ ?_
  · intro x2 hx2 s6 w3 e4 e5
    refine ev_r_istore_n (pc := 15) (k := 2) (by decide +kernel) (by decide +kernel) rfl ?_
    refine ev_r_iconst (pc := 16) (k := 0) (by decide +kernel) ?_
    refine ev_r_istore_n (pc := 17) (k := 3) (by decide +kernel) (by decide +kernel) rfl ?_
    exact jlt_260_18 d hd Q a0 ha0   Q x2 hx2 0 (by decide) s6 _ (by exact (ev_l1 (ev_l1 e4 (by decide) (by decide)) (by decide) (by decide))) (by exact (ev_l1 (ev_lk_st1 e5 (by decide) rfl) (by decide) (by decide))) (by exact (ev_lk_st1 ev_lk_st1_self (by decide) rfl)) (by exact ev_lk_st1_self)
  · intro K15 hK15
    refine ev_r_icmp (pc := 7) (q := .eq) (o := 7) (t := 14) (c := x1 = (-1)) (by decide +kernel) (ev_k_eq hx1 (by decide)) (by decide +kernel) ?_ ?_
    · intro c50
      refine ev_r_iconst (pc := 14) (k := 0) (by decide +kernel) ?_
      exact hK15 0 (by decide) S _ (by rfl) (by rfl)
    · intro c50
      refine ev_r_iconst (pc := 10) (k := 1) (by decide +kernel) ?_
      refine ev_r_goto (pc := 11) (o := 4) (t := 15) (by decide +kernel) (by decide +kernel) ?_
      exact hK15 1 (by decide) S _ (by rfl) (by rfl)
/-- MendBenchModel.asks()V -/
def jm_261 (Q : Nat)  (S : ev_St) : Option ((Unit) × ev_St) := ev_bd (jm_233 Q 0 S) fun x2 s1 => ev_bd (jm_233 Q 1 s1) fun x4 s3 => ev_bd (jm_233 Q 2 s3) fun x6 s5 => ev_jn (fun (x7 : Int) (x8 : Int) (x9 : Int) (s15 : ev_St) => if x7 ≠ 60 then (ev_jn (fun  (s20 : ev_St) => ev_bd (jm_234 Q 1 s20) fun _ s21 => ev_jn (fun (x22 : Int) (s26 : ev_St) => ev_bd (jm_237 Q x22 s26) fun x28 s27 => ev_bd (jm_232 Q  s27) fun x30 s29 => ev_ck (x30 + x28) fun x31 => ev_jn (fun (x32 : Int) (x35 : Int) (x34 : Int) (r33 : Nat) (s39 : ev_St) => ev_if ((0 : Int) ≤ x34 ∧ x34 < (ev_aln r33 : Int)) (ev_b (ev_pI s39 r33 (Int.toNat x34) x35) fun s40 => ev_bd (jm_239 Q x32 0 s40) fun _ s41 => some ((), s41))) fun K221 => if x7 ≠ 33 then (K221 x28 0 x31 629 s29) else (K221 x28 1 x31 629 s29)) fun K194 => if x7 ≠ 58 then (if x7 ≠ 62 then (K194 11 s21) else (K194 10 s21)) else (K194 9 s21)) fun K164 => if x7 = 58 then (K164  s15) else (if x7 = 62 then (K164  s15) else (if x7 = 61 then (K164  s15) else (if x7 ≠ 33 then (if x7 ≠ 40 then (ev_bd (jm_226 Q x7 s15) fun x51 s50 => if x51 = 0 then (if x7 ≠ 38 then (ev_bd (jm_258 Q  s50) fun _ s54 => some ((), s54)) else (ev_b (s50.1 621 25) fun x55 => ev_jn (fun (x56 : Int) (s60 : ev_St) => ev_if (ev_bl x56) (ev_b (ev_pI s60 621 25 x56) fun s61 => ev_bd (jm_234 Q 3 s61) fun _ s63 => ev_b (s63.1 621 25) fun x64 => if x64 ≠ 0 then (some ((), s63)) else (ev_ck (x8 - 97) fun x66 => ev_bd (jm_260 Q x66 s63) fun _ s67 => some ((), s67)))) fun K403 => ev_jn (fun  (s71 : ev_St) => K403 1 s71) fun K398 => if x55 ≠ 0 then (K398  s50) else (ev_bd (jm_224 Q x8 s50) fun x74 s73 => if x74 = 0 then (K398  s73) else (if x9 = 41 then (K403 0 s73) else (K398  s73))))) else (ev_b (s50.1 621 25) fun x77 => ev_jn (fun (x78 : Int) (s82 : ev_St) => ev_if (ev_bl x78) (ev_b (ev_pI s82 621 25 x78) fun s83 => ev_bd (jm_234 Q 2 s83) fun _ s85 => ev_bd (jm_237 Q 14 s85) fun x87 s86 => ev_bd (jm_232 Q  s86) fun x89 s88 => ev_ck (x89 + x87) fun x90 => ev_ck (x7 - 48) fun x91 => ev_if ((0 : Int) ≤ x90 ∧ x90 < (ev_aln 628 : Int)) (ev_b (ev_pI s88 628 (Int.toNat x90) x91) fun s92 => some ((), s92)))) fun K336 => ev_jn (fun  (s96 : ev_St) => K336 1 s96) fun K331 => if x77 ≠ 0 then (K331  s50) else (if x8 = 41 then (K336 0 s50) else (K331  s50)))) else (ev_b (s15.1 621 25) fun x99 => ev_jn (fun (x100 : Int) (s104 : ev_St) => ev_if (ev_bl x100) (ev_b (ev_pI s104 621 25 x100) fun s105 => ev_bd (jm_234 Q 3 s105) fun _ s107 => ev_bd (jm_237 Q 13 s107) fun x109 s108 => ev_bd (jm_232 Q  s108) fun x111 s110 => ev_ck (x111 + x109) fun x112 => ev_ck (x8 - 48) fun x113 => ev_if ((0 : Int) ≤ x112 ∧ x112 < (ev_aln 628 : Int)) (ev_b (ev_pI s110 628 (Int.toNat x112) x113) fun s114 => ev_bd (jm_239 Q x109 0 s114) fun _ s115 => some ((), s115)))) fun K268 => ev_jn (fun  (s119 : ev_St) => K268 1 s119) fun K263 => if x99 ≠ 0 then (K263  s15) else (ev_bd (jm_222 Q x8 49 57 s15) fun x122 s121 => if x122 = 0 then (K263  s121) else (if x9 = 41 then (K268 0 s121) else (K263  s121))))) else (K164  s15))))) else (ev_b (s15.1 621 25) fun x125 => ev_jn (fun (x126 : Int) (s130 : ev_St) => ev_if (ev_bl x126) (ev_b (ev_pI s130 621 25 x126) fun s131 => ev_bd (jm_234 Q 3 s131) fun _ s133 => ev_b (s133.1 621 25) fun x134 => if x134 ≠ 0 then (some ((), s133)) else (ev_ck (x8 - 97) fun x136 => ev_bd (jm_259 Q x136 s133) fun _ s137 => some ((), s137)))) fun K114 => ev_jn (fun  (s141 : ev_St) => K114 1 s141) fun K109 => if x125 ≠ 0 then (K109  s15) else (ev_bd (jm_224 Q x8 s15) fun x144 s143 => if x144 = 0 then (K109  s143) else (if x9 = 62 then (K114 0 s143) else (K109  s143))))) fun K82 => if x2 ≠ 60 then (K82 x2 x4 x6 s5) else (ev_jn (fun  (s151 : ev_St) => ev_bd (jm_234 Q 2 s151) fun _ s152 => ev_bd (jm_237 Q 12 s152) fun x154 s153 => ev_bd (jm_232 Q  s153) fun x156 s155 => ev_ck (x156 + x154) fun x157 => ev_jn (fun (x158 : Int) (x161 : Int) (x160 : Int) (r159 : Nat) (s165 : ev_St) => ev_if ((0 : Int) ≤ x160 ∧ x160 < (ev_aln r159 : Int)) (ev_b (ev_pI s165 r159 (Int.toNat x160) x161) fun s166 => ev_bd (jm_239 Q x158 0 s166) fun _ s167 => some ((), s167))) fun K71 => if x4 ≠ 33 then (K71 x154 0 x157 629 s155) else (K71 x154 1 x157 629 s155)) fun K36 => if x4 = 61 then (K36  s5) else (if x4 ≠ 33 then (K82 x2 x4 x6 s5) else (K36  s5)))
theorem jt_261 (d : Nat) (hd : 5 ≤ d) (Q : Nat)   (S : ev_St) (x : Unit) (S' : ev_St) (hJ : jm_261 Q  S = some (x, S')) : ev_Ref d 261 [.ref 621] S (ev_eU x) S' (ev_PU x) := by
  obtain ⟨d, rfl⟩ : ∃ e, d = e + 1 := ⟨d - 1, by omega⟩
  refine ev_ref_of (P := ev_PU) (lv := [(0, .ref 621)]) (by decide +kernel) (by (try simp only [ev_sum, ev_nv_cat]); first | done | rfl) (by (try simp only [lv_args, ev_nv_cat]); first | done | rfl) ?_ x S' hJ
  unfold jm_261
  refine ev_r_aload_n (pc := 0) (k := 0) (v := .ref 621) trivial (by decide +kernel) (by rfl) ?_
  refine ev_r_iconst (pc := 1) (k := 0) (by decide +kernel) ?_
  refine ev_r_virt (pc := 2) (y := 409) (mi := 233) (na := 1) (k := 621) (as := [.int (Int32.ofInt 0)]) (rest := []) (encc := ev_oI) (Q := ev_rng) (fun x S1 h => jt_233 d (by omega) Q 0 (by decide) S x S1 h) (by exact ev_ob_621) (by decide +kernel) (by decide +kernel) (by decide +kernel) (by decide +kernel) rfl (by (try simp only [ev_sum, ev_nv_cat]); first | done | rfl) ?_
  intro x2 s1 hx2
  show ev_w _ _ _ _ _ [.int (Int32.ofInt x2)] _ _ _ _
  refine ev_r_istore_n (pc := 5) (k := 1) (by decide +kernel) (by decide +kernel) rfl ?_
  refine ev_r_aload_n (pc := 6) (k := 0) (v := .ref 621) trivial (by decide +kernel) (by exact (ev_lk_st1 (by rfl) (by decide) rfl)) ?_
  refine ev_r_iconst (pc := 7) (k := 1) (by decide +kernel) ?_
  refine ev_r_virt (pc := 8) (y := 409) (mi := 233) (na := 1) (k := 621) (as := [.int (Int32.ofInt 1)]) (rest := []) (encc := ev_oI) (Q := ev_rng) (fun x S1 h => jt_233 d (by omega) Q 1 (by decide) s1 x S1 h) (by exact ev_ob_621) (by decide +kernel) (by decide +kernel) (by decide +kernel) (by decide +kernel) rfl (by (try simp only [ev_sum, ev_nv_cat]); first | done | rfl) ?_
  intro x4 s3 hx4
  show ev_w _ _ _ _ _ [.int (Int32.ofInt x4)] _ _ _ _
  refine ev_r_istore_n (pc := 11) (k := 2) (by decide +kernel) (by decide +kernel) rfl ?_
  refine ev_r_aload_n (pc := 12) (k := 0) (v := .ref 621) trivial (by decide +kernel) (by exact (ev_l1 (ev_lk_st1 (by rfl) (by decide) rfl) (by decide) (by decide))) ?_
  refine ev_r_iconst (pc := 13) (k := 2) (by decide +kernel) ?_
  refine ev_r_virt (pc := 14) (y := 409) (mi := 233) (na := 1) (k := 621) (as := [.int (Int32.ofInt 2)]) (rest := []) (encc := ev_oI) (Q := ev_rng) (fun x S1 h => jt_233 d (by omega) Q 2 (by decide) s3 x S1 h) (by exact ev_ob_621) (by decide +kernel) (by decide +kernel) (by decide +kernel) (by decide +kernel) rfl (by (try simp only [ev_sum, ev_nv_cat]); first | done | rfl) ?_
  intro x6 s5 hx6
  show ev_w _ _ _ _ _ [.int (Int32.ofInt x6)] _ _ _ _
  refine ev_r_istore_n (pc := 17) (k := 3) (by decide +kernel) (by decide +kernel) rfl ?_
  refine ev_r_iload_n (pc := 18) (k := 1) (v := Int32.ofInt x2) (by decide +kernel) (by exact (ev_l1 (ev_lk_st1 ev_lk_st1_self (by decide) rfl) (by decide) (by decide))) ?_
  refine ev_r_bipush (pc := 19) (k := 60) (by decide +kernel) (by decide +kernel) ?_
  refine ev_r_jn (Q := fun K => ∀ (x7 : Int) (hx7 : ev_rng x7), ∀ (x8 : Int) (hx8 : ev_rng x8), ∀ (x9 : Int) (hx9 : ev_rng x9), ∀ (s15 : ev_St) (w10 : List (Nat × Value)), ev_lk w10 0 = some (.ref 621) → ev_lk w10 1 = some (.int (Int32.ofInt x7)) → ev_lk w10 2 = some (.int (Int32.ofInt x8)) → ev_lk w10 3 = some (.int (Int32.ofInt x9)) → ev_w none (ev_Mof 261) d 82 w10 [] s15 (K x7 x8 x9 s15) ev_eU ev_PU) ?_ ?_
  · intro x7 hx7 x8 hx8 x9 hx9 s15 w10 e11 e12 e13 e14
    refine ev_r_iload_n (pc := 82) (k := 1) (v := Int32.ofInt x7) (by decide +kernel) (by exact e12) ?_
    refine ev_r_bipush (pc := 83) (k := 60) (by decide +kernel) (by decide +kernel) ?_
    refine ev_r_icmp (pc := 85) (q := .ne) (o := 55) (t := 140) (c := x7 ≠ 60) (by decide +kernel) (ev_k_ne hx7 (by decide)) (by decide +kernel) ?_ ?_
    · intro c16
      refine ev_r_iload_n (pc := 140) (k := 1) (v := Int32.ofInt x7) (by decide +kernel) (by exact e12) ?_
      refine ev_r_bipush (pc := 141) (k := 58) (by decide +kernel) (by decide +kernel) ?_
      refine ev_r_jn (Q := fun K => ∀ (s20 : ev_St) (w17 : List (Nat × Value)), ev_lk w17 0 = some (.ref 621) → ev_lk w17 1 = some (.int (Int32.ofInt x7)) → ev_w none (ev_Mof 261) d 164 w17 [] s20 (K  s20) ev_eU ev_PU) ?_ ?_
      · intro  s20 w17 e18 e19
        refine ev_r_aload_n (pc := 164) (k := 0) (v := .ref 621) trivial (by decide +kernel) (by exact e18) ?_
        refine ev_r_iconst (pc := 165) (k := 1) (by decide +kernel) ?_
        refine ev_r_virt (pc := 166) (y := 415) (mi := 234) (na := 1) (k := 621) (as := [.int (Int32.ofInt 1)]) (rest := []) (encc := ev_oU) (Q := ev_PU) (fun x S1 h => jt_234 d (by omega) Q 1 (by decide) s20 x S1 h) (by exact ev_ob_621) (by decide +kernel) (by decide +kernel) (by decide +kernel) (by decide +kernel) rfl (by (try simp only [ev_sum, ev_nv_cat]); first | done | rfl) ?_
        intro _ s21 _
        show ev_w _ _ _ _ _ [] _ _ _ _
        refine ev_r_aload_n (pc := 169) (k := 0) (v := .ref 621) trivial (by decide +kernel) (by exact e18) ?_
        refine ev_r_iload_n (pc := 170) (k := 1) (v := Int32.ofInt x7) (by decide +kernel) (by exact e19) ?_
        refine ev_r_bipush (pc := 171) (k := 58) (by decide +kernel) (by decide +kernel) ?_
        refine ev_r_jn (Q := fun K => ∀ (x22 : Int) (hx22 : ev_rng x22), ∀ (s26 : ev_St) (w23 : List (Nat × Value)), ev_lk w23 0 = some (.ref 621) → ev_lk w23 1 = some (.int (Int32.ofInt x7)) → ev_w none (ev_Mof 261) d 194 w23 [.int (Int32.ofInt x22), .ref 621] s26 (K x22 s26) ev_eU ev_PU) ?_ ?_
        · intro x22 hx22 s26 w23 e24 e25
          refine ev_r_virt (pc := 194) (y := 378) (mi := 237) (na := 1) (k := 621) (as := [.int (Int32.ofInt x22)]) (rest := []) (encc := ev_oI) (Q := ev_rng) (fun x S1 h => jt_237 d (by omega) Q x22 hx22 s26 x S1 h) (by exact ev_ob_621) (by decide +kernel) (by decide +kernel) (by decide +kernel) (by decide +kernel) rfl (by (try simp only [ev_sum, ev_nv_cat]); first | done | rfl) ?_
          intro x28 s27 hx28
          show ev_w _ _ _ _ _ [.int (Int32.ofInt x28)] _ _ _ _
          refine ev_r_istore (pc := 197) (k := 4) (by decide +kernel) (by decide +kernel) rfl ?_
          refine ev_r_aload_n (pc := 199) (k := 0) (v := .ref 621) trivial (by decide +kernel) (by exact (ev_l1 e24 (by decide) (by decide))) ?_
          refine ev_r_getC (pc := 200) (y := 31) (ci := 13) (f := 10) (fin := 1) (k' := 629) (by decide +kernel) (by decide +kernel) (by exact ev_ob_621) rfl rfl ?_
          refine ev_r_aload_n (pc := 203) (k := 0) (v := .ref 621) trivial (by decide +kernel) (by exact (ev_l1 e24 (by decide) (by decide))) ?_
          refine ev_r_virt (pc := 204) (y := 356) (mi := 232) (na := 0) (k := 621) (as := []) (rest := [.ref 629]) (encc := ev_oI) (Q := ev_rng) (fun x S1 h => jt_232 d (by omega) Q   s27 x S1 h) (by exact ev_ob_621) (by decide +kernel) (by decide +kernel) (by decide +kernel) (by decide +kernel) rfl (by (try simp only [ev_sum, ev_nv_cat]); first | done | rfl) ?_
          intro x30 s29 hx30
          show ev_w _ _ _ _ _ [.int (Int32.ofInt x30), .ref 629] _ _ _ _
          refine ev_r_iload (pc := 207) (k := 4) (v := Int32.ofInt x28) (by decide +kernel) (by exact ev_lk_st1_self) ?_
          refine ev_r_iadd (pc := 209) (by decide +kernel) ?_
          intro x31 hx31
          refine ev_r_iload_n (pc := 210) (k := 1) (v := Int32.ofInt x7) (by decide +kernel) (by exact (ev_l1 e25 (by decide) (by decide))) ?_
          refine ev_r_bipush (pc := 211) (k := 33) (by decide +kernel) (by decide +kernel) ?_
          refine ev_r_jn (Q := fun K => ∀ (x32 : Int) (hx32 : ev_rng x32), ∀ (x35 : Int) (hx35 : ev_rng x35), ∀ (x34 : Int) (hx34 : ev_rng x34), ∀ (r33 : Nat) (hr33 : ev_isAb r33 1 .int = true), ∀ (s39 : ev_St) (w36 : List (Nat × Value)), ev_lk w36 0 = some (.ref 621) → ev_lk w36 4 = some (.int (Int32.ofInt x32)) → ev_w none (ev_Mof 261) d 221 w36 [.int (Int32.ofInt x35), .int (Int32.ofInt x34), .ref r33] s39 (K x32 x35 x34 r33 s39) ev_eU ev_PU) ?_ ?_
          · intro x32 hx32 x35 hx35 x34 hx34 r33 hr33 s39 w36 e37 e38
            refine ev_r_iast (pc := 221) hx35 hx34 (by decide +kernel) (by exact hr33) ?_
            intro s40
            refine ev_r_aload_n (pc := 222) (k := 0) (v := .ref 621) trivial (by decide +kernel) (by exact e37) ?_
            refine ev_r_iload (pc := 223) (k := 4) (v := Int32.ofInt x32) (by decide +kernel) (by exact e38) ?_
            refine ev_r_iconst (pc := 225) (k := 0) (by decide +kernel) ?_
            refine ev_r_virt (pc := 226) (y := 456) (mi := 239) (na := 2) (k := 621) (as := [.int (Int32.ofInt x32), .int (Int32.ofInt 0)]) (rest := []) (encc := ev_oU) (Q := ev_PU) (fun x S1 h => jt_239 d (by omega) Q x32 0 hx32 (by decide) s40 x S1 h) (by exact ev_ob_621) (by decide +kernel) (by decide +kernel) (by decide +kernel) (by decide +kernel) rfl (by (try simp only [ev_sum, ev_nv_cat]); first | done | rfl) ?_
            intro _ s41 _
            show ev_w _ _ _ _ _ [] _ _ _ _
            refine ev_r_goto (pc := 229) (o := 204) (t := 433) (by decide +kernel) (by decide +kernel) ?_
            exact ev_r_return (pc := 433) (x := ()) trivial (by decide +kernel) (by decide +kernel) rfl
          · intro K221 hK221
            refine ev_r_icmp (pc := 213) (q := .ne) (o := 7) (t := 220) (c := x7 ≠ 33) (by decide +kernel) (ev_k_ne hx7 (by decide)) (by decide +kernel) ?_ ?_
            · intro c42
              refine ev_r_iconst (pc := 220) (k := 0) (by decide +kernel) ?_
              exact hK221 x28 hx28 0 (by decide) x31 hx31 629 ev_ab_629 s29 _ (by exact (ev_l1 e24 (by decide) (by decide))) (by exact ev_lk_st1_self)
            · intro c42
              refine ev_r_iconst (pc := 216) (k := 1) (by decide +kernel) ?_
              refine ev_r_goto (pc := 217) (o := 4) (t := 221) (by decide +kernel) (by decide +kernel) ?_
              exact hK221 x28 hx28 1 (by decide) x31 hx31 629 ev_ab_629 s29 _ (by exact (ev_l1 e24 (by decide) (by decide))) (by exact ev_lk_st1_self)
        · intro K194 hK194
          refine ev_r_icmp (pc := 173) (q := .ne) (o := 8) (t := 181) (c := x7 ≠ 58) (by decide +kernel) (ev_k_ne hx7 (by decide)) (by decide +kernel) ?_ ?_
          · intro c43
            refine ev_r_iload_n (pc := 181) (k := 1) (v := Int32.ofInt x7) (by decide +kernel) (by exact e19) ?_
            refine ev_r_bipush (pc := 182) (k := 62) (by decide +kernel) (by decide +kernel) ?_
            refine ev_r_icmp (pc := 184) (q := .ne) (o := 8) (t := 192) (c := x7 ≠ 62) (by decide +kernel) (ev_k_ne hx7 (by decide)) (by decide +kernel) ?_ ?_
            · intro c44
              refine ev_r_bipush (pc := 192) (k := 11) (by decide +kernel) (by decide +kernel) ?_
              exact hK194 11 (by decide) s21 _ (by exact e18) (by exact e19)
            · intro c44
              refine ev_r_bipush (pc := 187) (k := 10) (by decide +kernel) (by decide +kernel) ?_
              refine ev_r_goto (pc := 189) (o := 5) (t := 194) (by decide +kernel) (by decide +kernel) ?_
              exact hK194 10 (by decide) s21 _ (by exact e18) (by exact e19)
          · intro c43
            refine ev_r_bipush (pc := 176) (k := 9) (by decide +kernel) (by decide +kernel) ?_
            refine ev_r_goto (pc := 178) (o := 16) (t := 194) (by decide +kernel) (by decide +kernel) ?_
            exact hK194 9 (by decide) s21 _ (by exact e18) (by exact e19)
      · intro K164 hK164
        refine ev_r_icmp (pc := 143) (q := .eq) (o := 21) (t := 164) (c := x7 = 58) (by decide +kernel) (ev_k_eq hx7 (by decide)) (by decide +kernel) ?_ ?_
        · intro c45
          exact hK164  s15 _ (by exact e11) (by exact e12)
        · intro c45
          refine ev_r_iload_n (pc := 146) (k := 1) (v := Int32.ofInt x7) (by decide +kernel) (by exact e12) ?_
          refine ev_r_bipush (pc := 147) (k := 62) (by decide +kernel) (by decide +kernel) ?_
          refine ev_r_icmp (pc := 149) (q := .eq) (o := 15) (t := 164) (c := x7 = 62) (by decide +kernel) (ev_k_eq hx7 (by decide)) (by decide +kernel) ?_ ?_
          · intro c46
            exact hK164  s15 _ (by exact e11) (by exact e12)
          · intro c46
            refine ev_r_iload_n (pc := 152) (k := 1) (v := Int32.ofInt x7) (by decide +kernel) (by exact e12) ?_
            refine ev_r_bipush (pc := 153) (k := 61) (by decide +kernel) (by decide +kernel) ?_
            refine ev_r_icmp (pc := 155) (q := .eq) (o := 9) (t := 164) (c := x7 = 61) (by decide +kernel) (ev_k_eq hx7 (by decide)) (by decide +kernel) ?_ ?_
            · intro c47
              exact hK164  s15 _ (by exact e11) (by exact e12)
            · intro c47
              refine ev_r_iload_n (pc := 158) (k := 1) (v := Int32.ofInt x7) (by decide +kernel) (by exact e12) ?_
              refine ev_r_bipush (pc := 159) (k := 33) (by decide +kernel) (by decide +kernel) ?_
              refine ev_r_icmp (pc := 161) (q := .ne) (o := 71) (t := 232) (c := x7 ≠ 33) (by decide +kernel) (ev_k_ne hx7 (by decide)) (by decide +kernel) ?_ ?_
              · intro c48
                refine ev_r_iload_n (pc := 232) (k := 1) (v := Int32.ofInt x7) (by decide +kernel) (by exact e12) ?_
                refine ev_r_bipush (pc := 233) (k := 40) (by decide +kernel) (by decide +kernel) ?_
                refine ev_r_icmp (pc := 235) (q := .ne) (o := 75) (t := 310) (c := x7 ≠ 40) (by decide +kernel) (ev_k_ne hx7 (by decide)) (by decide +kernel) ?_ ?_
                · intro c49
                  refine ev_r_iload_n (pc := 310) (k := 1) (v := Int32.ofInt x7) (by decide +kernel) (by exact e12) ?_
                  refine ev_r_stat (pc := 311) (y := 336) (kind := 2) (mi := 226) (na := 1) (as := [.int (Int32.ofInt x7)]) (rest := []) (encc := ev_oI) (Q := ev_bl) (fun x S1 h => jt_226 d (by omega) Q x7 hx7 s15 x S1 h) (Or.inl rfl) (by decide +kernel) (by decide +kernel) (by decide +kernel) (by decide +kernel) rfl (by (try simp only [ev_sum, ev_nv_cat]); first | done | rfl) ?_
                  intro x51 s50 hx51
                  replace hx51 := ev_bl_rng hx51
                  show ev_w _ _ _ _ _ [.int (Int32.ofInt x51)] _ _ _ _
                  refine ev_r_if (pc := 314) (q := .eq) (o := 57) (t := 371) (c := x51 = 0) (by decide +kernel) (ev_k_eq hx51 ev_rng0) (by decide +kernel) ?_ ?_
                  · intro c52
                    refine ev_r_iload_n (pc := 371) (k := 1) (v := Int32.ofInt x7) (by decide +kernel) (by exact e12) ?_
                    refine ev_r_bipush (pc := 372) (k := 38) (by decide +kernel) (by decide +kernel) ?_
                    refine ev_r_icmp (pc := 374) (q := .ne) (o := 55) (t := 429) (c := x7 ≠ 38) (by decide +kernel) (ev_k_ne hx7 (by decide)) (by decide +kernel) ?_ ?_
                    · intro c53
                      refine ev_r_aload_n (pc := 429) (k := 0) (v := .ref 621) trivial (by decide +kernel) (by exact e11) ?_
                      refine ev_r_virt (pc := 430) (y := 469) (mi := 258) (na := 0) (k := 621) (as := []) (rest := []) (encc := ev_oU) (Q := ev_PU) (fun x S1 h => jt_258 d (by omega) Q   s50 x S1 h) (by exact ev_ob_621) (by decide +kernel) (by decide +kernel) (by decide +kernel) (by decide +kernel) rfl (by (try simp only [ev_sum, ev_nv_cat]); first | done | rfl) ?_
                      intro _ s54 _
                      show ev_w _ _ _ _ _ [] _ _ _ _
                      exact ev_r_return (pc := 433) (x := ()) trivial (by decide +kernel) (by decide +kernel) rfl
                    · intro c53
                      refine ev_r_aload_n (pc := 377) (k := 0) (v := .ref 621) trivial (by decide +kernel) (by exact e11) ?_
                      refine ev_r_aload_n (pc := 378) (k := 0) (v := .ref 621) trivial (by decide +kernel) (by exact e11) ?_
                      refine ev_r_getI (pc := 379) (y := 352) (ci := 13) (f := 25) (fin := 0) (by decide +kernel) (by decide +kernel) (by exact ev_ob_621) rfl ?_
                      intro x55 hx55
                      refine ev_r_jn (Q := fun K => ∀ (x56 : Int) (hx56 : ev_rng x56), ∀ (s60 : ev_St) (w57 : List (Nat × Value)), ev_lk w57 0 = some (.ref 621) → ev_lk w57 2 = some (.int (Int32.ofInt x8)) → ev_w none (ev_Mof 261) d 403 w57 [.int (Int32.ofInt x56), .ref 621] s60 (K x56 s60) ev_eU ev_PU) ?_ ?_
                      · intro x56 hx56 s60 w57 e58 e59
                        refine ev_r_chk ?_
                        intro c62
                        refine ev_r_putI (pc := 403) (y := 352) (ci := 13) (f := 25) hx56 (by decide +kernel) (by decide +kernel) (by exact ev_ob_621) rfl (ev_fit_bl c62) ?_
                        intro s61
                        refine ev_r_aload_n (pc := 406) (k := 0) (v := .ref 621) trivial (by decide +kernel) (by exact e58) ?_
                        refine ev_r_iconst (pc := 407) (k := 3) (by decide +kernel) ?_
                        refine ev_r_virt (pc := 408) (y := 415) (mi := 234) (na := 1) (k := 621) (as := [.int (Int32.ofInt 3)]) (rest := []) (encc := ev_oU) (Q := ev_PU) (fun x S1 h => jt_234 d (by omega) Q 3 (by decide) s61 x S1 h) (by exact ev_ob_621) (by decide +kernel) (by decide +kernel) (by decide +kernel) (by decide +kernel) rfl (by (try simp only [ev_sum, ev_nv_cat]); first | done | rfl) ?_
                        intro _ s63 _
                        show ev_w _ _ _ _ _ [] _ _ _ _
                        refine ev_r_aload_n (pc := 411) (k := 0) (v := .ref 621) trivial (by decide +kernel) (by exact e58) ?_
                        refine ev_r_getI (pc := 412) (y := 352) (ci := 13) (f := 25) (fin := 0) (by decide +kernel) (by decide +kernel) (by exact ev_ob_621) rfl ?_
                        intro x64 hx64
                        refine ev_r_if (pc := 415) (q := .ne) (o := 18) (t := 433) (c := x64 ≠ 0) (by decide +kernel) (ev_k_ne hx64 ev_rng0) (by decide +kernel) ?_ ?_
                        · intro c65
                          exact ev_r_return (pc := 433) (x := ()) trivial (by decide +kernel) (by decide +kernel) rfl
                        · intro c65
                          refine ev_r_aload_n (pc := 418) (k := 0) (v := .ref 621) trivial (by decide +kernel) (by exact e58) ?_
                          refine ev_r_iload_n (pc := 419) (k := 2) (v := Int32.ofInt x8) (by decide +kernel) (by exact e59) ?_
                          refine ev_r_bipush (pc := 420) (k := 97) (by decide +kernel) (by decide +kernel) ?_
                          refine ev_r_isub (pc := 422) (by decide +kernel) ?_
                          intro x66 hx66
                          refine ev_r_virt (pc := 423) (y := 466) (mi := 260) (na := 1) (k := 621) (as := [.int (Int32.ofInt x66)]) (rest := []) (encc := ev_oU) (Q := ev_PU) (fun x S1 h => jt_260 d (by omega) Q x66 hx66 s63 x S1 h) (by exact ev_ob_621) (by decide +kernel) (by decide +kernel) (by decide +kernel) (by decide +kernel) rfl (by (try simp only [ev_sum, ev_nv_cat]); first | done | rfl) ?_
                          intro _ s67 _
                          show ev_w _ _ _ _ _ [] _ _ _ _
                          refine ev_r_goto (pc := 426) (o := 7) (t := 433) (by decide +kernel) (by decide +kernel) ?_
                          exact ev_r_return (pc := 433) (x := ()) trivial (by decide +kernel) (by decide +kernel) rfl
                      · intro K403 hK403
                        refine ev_r_jn (Q := fun K => ∀ (s71 : ev_St) (w68 : List (Nat × Value)), ev_lk w68 0 = some (.ref 621) → ev_lk w68 2 = some (.int (Int32.ofInt x8)) → ev_w none (ev_Mof 261) d 398 w68 [.ref 621] s71 (K  s71) ev_eU ev_PU) ?_ ?_
                        · intro  s71 w68 e69 e70
                          refine ev_r_iconst (pc := 398) (k := 1) (by decide +kernel) ?_
                          refine ev_r_goto (pc := 399) (o := 4) (t := 403) (by decide +kernel) (by decide +kernel) ?_
                          exact hK403 1 (by decide) s71 _ (by exact e69) (by exact e70)
                        · intro K398 hK398
                          refine ev_r_if (pc := 382) (q := .ne) (o := 16) (t := 398) (c := x55 ≠ 0) (by decide +kernel) (ev_k_ne hx55 ev_rng0) (by decide +kernel) ?_ ?_
                          · intro c72
                            exact hK398  s50 _ (by exact e11) (by exact e13)
                          · intro c72
                            refine ev_r_iload_n (pc := 385) (k := 2) (v := Int32.ofInt x8) (by decide +kernel) (by exact e13) ?_
                            refine ev_r_stat (pc := 386) (y := 329) (kind := 2) (mi := 224) (na := 1) (as := [.int (Int32.ofInt x8)]) (rest := [.ref 621]) (encc := ev_oI) (Q := ev_bl) (fun x S1 h => jt_224 d (by omega) Q x8 hx8 s50 x S1 h) (Or.inl rfl) (by decide +kernel) (by decide +kernel) (by decide +kernel) (by decide +kernel) rfl (by (try simp only [ev_sum, ev_nv_cat]); first | done | rfl) ?_
                            intro x74 s73 hx74
                            replace hx74 := ev_bl_rng hx74
                            show ev_w _ _ _ _ _ [.int (Int32.ofInt x74), .ref 621] _ _ _ _
                            refine ev_r_if (pc := 389) (q := .eq) (o := 9) (t := 398) (c := x74 = 0) (by decide +kernel) (ev_k_eq hx74 ev_rng0) (by decide +kernel) ?_ ?_
                            · intro c75
                              exact hK398  s73 _ (by exact e11) (by exact e13)
                            · intro c75
                              refine ev_r_iload_n (pc := 392) (k := 3) (v := Int32.ofInt x9) (by decide +kernel) (by exact e14) ?_
                              refine ev_r_bipush (pc := 393) (k := 41) (by decide +kernel) (by decide +kernel) ?_
                              refine ev_r_icmp (pc := 395) (q := .eq) (o := 7) (t := 402) (c := x9 = 41) (by decide +kernel) (ev_k_eq hx9 (by decide)) (by decide +kernel) ?_ ?_
                              · intro c76
                                refine ev_r_iconst (pc := 402) (k := 0) (by decide +kernel) ?_
                                exact hK403 0 (by decide) s73 _ (by exact e11) (by exact e13)
                              · intro c76
                                exact hK398  s73 _ (by exact e11) (by exact e13)
                  · intro c52
                    refine ev_r_aload_n (pc := 317) (k := 0) (v := .ref 621) trivial (by decide +kernel) (by exact e11) ?_
                    refine ev_r_aload_n (pc := 318) (k := 0) (v := .ref 621) trivial (by decide +kernel) (by exact e11) ?_
                    refine ev_r_getI (pc := 319) (y := 352) (ci := 13) (f := 25) (fin := 0) (by decide +kernel) (by decide +kernel) (by exact ev_ob_621) rfl ?_
                    intro x77 hx77
                    refine ev_r_jn (Q := fun K => ∀ (x78 : Int) (hx78 : ev_rng x78), ∀ (s82 : ev_St) (w79 : List (Nat × Value)), ev_lk w79 0 = some (.ref 621) → ev_lk w79 1 = some (.int (Int32.ofInt x7)) → ev_w none (ev_Mof 261) d 336 w79 [.int (Int32.ofInt x78), .ref 621] s82 (K x78 s82) ev_eU ev_PU) ?_ ?_
                    · intro x78 hx78 s82 w79 e80 e81
                      refine ev_r_chk ?_
                      intro c84
                      refine ev_r_putI (pc := 336) (y := 352) (ci := 13) (f := 25) hx78 (by decide +kernel) (by decide +kernel) (by exact ev_ob_621) rfl (ev_fit_bl c84) ?_
                      intro s83
                      refine ev_r_aload_n (pc := 339) (k := 0) (v := .ref 621) trivial (by decide +kernel) (by exact e80) ?_
                      refine ev_r_iconst (pc := 340) (k := 2) (by decide +kernel) ?_
                      refine ev_r_virt (pc := 341) (y := 415) (mi := 234) (na := 1) (k := 621) (as := [.int (Int32.ofInt 2)]) (rest := []) (encc := ev_oU) (Q := ev_PU) (fun x S1 h => jt_234 d (by omega) Q 2 (by decide) s83 x S1 h) (by exact ev_ob_621) (by decide +kernel) (by decide +kernel) (by decide +kernel) (by decide +kernel) rfl (by (try simp only [ev_sum, ev_nv_cat]); first | done | rfl) ?_
                      intro _ s85 _
                      show ev_w _ _ _ _ _ [] _ _ _ _
                      refine ev_r_aload_n (pc := 344) (k := 0) (v := .ref 621) trivial (by decide +kernel) (by exact e80) ?_
                      refine ev_r_bipush (pc := 345) (k := 14) (by decide +kernel) (by decide +kernel) ?_
                      refine ev_r_virt (pc := 347) (y := 378) (mi := 237) (na := 1) (k := 621) (as := [.int (Int32.ofInt 14)]) (rest := []) (encc := ev_oI) (Q := ev_rng) (fun x S1 h => jt_237 d (by omega) Q 14 (by decide) s85 x S1 h) (by exact ev_ob_621) (by decide +kernel) (by decide +kernel) (by decide +kernel) (by decide +kernel) rfl (by (try simp only [ev_sum, ev_nv_cat]); first | done | rfl) ?_
                      intro x87 s86 hx87
                      show ev_w _ _ _ _ _ [.int (Int32.ofInt x87)] _ _ _ _
                      refine ev_r_istore (pc := 350) (k := 4) (by decide +kernel) (by decide +kernel) rfl ?_
                      refine ev_r_aload_n (pc := 352) (k := 0) (v := .ref 621) trivial (by decide +kernel) (by exact (ev_l1 e80 (by decide) (by decide))) ?_
                      refine ev_r_getC (pc := 353) (y := 28) (ci := 13) (f := 9) (fin := 1) (k' := 628) (by decide +kernel) (by decide +kernel) (by exact ev_ob_621) rfl rfl ?_
                      refine ev_r_aload_n (pc := 356) (k := 0) (v := .ref 621) trivial (by decide +kernel) (by exact (ev_l1 e80 (by decide) (by decide))) ?_
                      refine ev_r_virt (pc := 357) (y := 356) (mi := 232) (na := 0) (k := 621) (as := []) (rest := [.ref 628]) (encc := ev_oI) (Q := ev_rng) (fun x S1 h => jt_232 d (by omega) Q   s86 x S1 h) (by exact ev_ob_621) (by decide +kernel) (by decide +kernel) (by decide +kernel) (by decide +kernel) rfl (by (try simp only [ev_sum, ev_nv_cat]); first | done | rfl) ?_
                      intro x89 s88 hx89
                      show ev_w _ _ _ _ _ [.int (Int32.ofInt x89), .ref 628] _ _ _ _
                      refine ev_r_iload (pc := 360) (k := 4) (v := Int32.ofInt x87) (by decide +kernel) (by exact ev_lk_st1_self) ?_
                      refine ev_r_iadd (pc := 362) (by decide +kernel) ?_
                      intro x90 hx90
                      refine ev_r_iload_n (pc := 363) (k := 1) (v := Int32.ofInt x7) (by decide +kernel) (by exact (ev_l1 e81 (by decide) (by decide))) ?_
                      refine ev_r_bipush (pc := 364) (k := 48) (by decide +kernel) (by decide +kernel) ?_
                      refine ev_r_isub (pc := 366) (by decide +kernel) ?_
                      intro x91 hx91
                      refine ev_r_iast (pc := 367) hx91 hx90 (by decide +kernel) (by exact ev_ab_628) ?_
                      intro s92
                      refine ev_r_goto (pc := 368) (o := 65) (t := 433) (by decide +kernel) (by decide +kernel) ?_
                      exact ev_r_return (pc := 433) (x := ()) trivial (by decide +kernel) (by decide +kernel) rfl
                    · intro K336 hK336
                      refine ev_r_jn (Q := fun K => ∀ (s96 : ev_St) (w93 : List (Nat × Value)), ev_lk w93 0 = some (.ref 621) → ev_lk w93 1 = some (.int (Int32.ofInt x7)) → ev_w none (ev_Mof 261) d 331 w93 [.ref 621] s96 (K  s96) ev_eU ev_PU) ?_ ?_
                      · intro  s96 w93 e94 e95
                        refine ev_r_iconst (pc := 331) (k := 1) (by decide +kernel) ?_
                        refine ev_r_goto (pc := 332) (o := 4) (t := 336) (by decide +kernel) (by decide +kernel) ?_
                        exact hK336 1 (by decide) s96 _ (by exact e94) (by exact e95)
                      · intro K331 hK331
                        refine ev_r_if (pc := 322) (q := .ne) (o := 9) (t := 331) (c := x77 ≠ 0) (by decide +kernel) (ev_k_ne hx77 ev_rng0) (by decide +kernel) ?_ ?_
                        · intro c97
                          exact hK331  s50 _ (by exact e11) (by exact e12)
                        · intro c97
                          refine ev_r_iload_n (pc := 325) (k := 2) (v := Int32.ofInt x8) (by decide +kernel) (by exact e13) ?_
                          refine ev_r_bipush (pc := 326) (k := 41) (by decide +kernel) (by decide +kernel) ?_
                          refine ev_r_icmp (pc := 328) (q := .eq) (o := 7) (t := 335) (c := x8 = 41) (by decide +kernel) (ev_k_eq hx8 (by decide)) (by decide +kernel) ?_ ?_
                          · intro c98
                            refine ev_r_iconst (pc := 335) (k := 0) (by decide +kernel) ?_
                            exact hK336 0 (by decide) s50 _ (by exact e11) (by exact e12)
                          · intro c98
                            exact hK331  s50 _ (by exact e11) (by exact e12)
                · intro c49
                  refine ev_r_aload_n (pc := 238) (k := 0) (v := .ref 621) trivial (by decide +kernel) (by exact e11) ?_
                  refine ev_r_aload_n (pc := 239) (k := 0) (v := .ref 621) trivial (by decide +kernel) (by exact e11) ?_
                  refine ev_r_getI (pc := 240) (y := 352) (ci := 13) (f := 25) (fin := 0) (by decide +kernel) (by decide +kernel) (by exact ev_ob_621) rfl ?_
                  intro x99 hx99
                  refine ev_r_jn (Q := fun K => ∀ (x100 : Int) (hx100 : ev_rng x100), ∀ (s104 : ev_St) (w101 : List (Nat × Value)), ev_lk w101 0 = some (.ref 621) → ev_lk w101 2 = some (.int (Int32.ofInt x8)) → ev_w none (ev_Mof 261) d 268 w101 [.int (Int32.ofInt x100), .ref 621] s104 (K x100 s104) ev_eU ev_PU) ?_ ?_
                  · intro x100 hx100 s104 w101 e102 e103
                    refine ev_r_chk ?_
                    intro c106
                    refine ev_r_putI (pc := 268) (y := 352) (ci := 13) (f := 25) hx100 (by decide +kernel) (by decide +kernel) (by exact ev_ob_621) rfl (ev_fit_bl c106) ?_
                    intro s105
                    refine ev_r_aload_n (pc := 271) (k := 0) (v := .ref 621) trivial (by decide +kernel) (by exact e102) ?_
                    refine ev_r_iconst (pc := 272) (k := 3) (by decide +kernel) ?_
                    refine ev_r_virt (pc := 273) (y := 415) (mi := 234) (na := 1) (k := 621) (as := [.int (Int32.ofInt 3)]) (rest := []) (encc := ev_oU) (Q := ev_PU) (fun x S1 h => jt_234 d (by omega) Q 3 (by decide) s105 x S1 h) (by exact ev_ob_621) (by decide +kernel) (by decide +kernel) (by decide +kernel) (by decide +kernel) rfl (by (try simp only [ev_sum, ev_nv_cat]); first | done | rfl) ?_
                    intro _ s107 _
                    show ev_w _ _ _ _ _ [] _ _ _ _
                    refine ev_r_aload_n (pc := 276) (k := 0) (v := .ref 621) trivial (by decide +kernel) (by exact e102) ?_
                    refine ev_r_bipush (pc := 277) (k := 13) (by decide +kernel) (by decide +kernel) ?_
                    refine ev_r_virt (pc := 279) (y := 378) (mi := 237) (na := 1) (k := 621) (as := [.int (Int32.ofInt 13)]) (rest := []) (encc := ev_oI) (Q := ev_rng) (fun x S1 h => jt_237 d (by omega) Q 13 (by decide) s107 x S1 h) (by exact ev_ob_621) (by decide +kernel) (by decide +kernel) (by decide +kernel) (by decide +kernel) rfl (by (try simp only [ev_sum, ev_nv_cat]); first | done | rfl) ?_
                    intro x109 s108 hx109
                    show ev_w _ _ _ _ _ [.int (Int32.ofInt x109)] _ _ _ _
                    refine ev_r_istore (pc := 282) (k := 4) (by decide +kernel) (by decide +kernel) rfl ?_
                    refine ev_r_aload_n (pc := 284) (k := 0) (v := .ref 621) trivial (by decide +kernel) (by exact (ev_l1 e102 (by decide) (by decide))) ?_
                    refine ev_r_getC (pc := 285) (y := 28) (ci := 13) (f := 9) (fin := 1) (k' := 628) (by decide +kernel) (by decide +kernel) (by exact ev_ob_621) rfl rfl ?_
                    refine ev_r_aload_n (pc := 288) (k := 0) (v := .ref 621) trivial (by decide +kernel) (by exact (ev_l1 e102 (by decide) (by decide))) ?_
                    refine ev_r_virt (pc := 289) (y := 356) (mi := 232) (na := 0) (k := 621) (as := []) (rest := [.ref 628]) (encc := ev_oI) (Q := ev_rng) (fun x S1 h => jt_232 d (by omega) Q   s108 x S1 h) (by exact ev_ob_621) (by decide +kernel) (by decide +kernel) (by decide +kernel) (by decide +kernel) rfl (by (try simp only [ev_sum, ev_nv_cat]); first | done | rfl) ?_
                    intro x111 s110 hx111
                    show ev_w _ _ _ _ _ [.int (Int32.ofInt x111), .ref 628] _ _ _ _
                    refine ev_r_iload (pc := 292) (k := 4) (v := Int32.ofInt x109) (by decide +kernel) (by exact ev_lk_st1_self) ?_
                    refine ev_r_iadd (pc := 294) (by decide +kernel) ?_
                    intro x112 hx112
                    refine ev_r_iload_n (pc := 295) (k := 2) (v := Int32.ofInt x8) (by decide +kernel) (by exact (ev_l1 e103 (by decide) (by decide))) ?_
                    refine ev_r_bipush (pc := 296) (k := 48) (by decide +kernel) (by decide +kernel) ?_
                    refine ev_r_isub (pc := 298) (by decide +kernel) ?_
                    intro x113 hx113
                    refine ev_r_iast (pc := 299) hx113 hx112 (by decide +kernel) (by exact ev_ab_628) ?_
                    intro s114
                    refine ev_r_aload_n (pc := 300) (k := 0) (v := .ref 621) trivial (by decide +kernel) (by exact (ev_l1 e102 (by decide) (by decide))) ?_
                    refine ev_r_iload (pc := 301) (k := 4) (v := Int32.ofInt x109) (by decide +kernel) (by exact ev_lk_st1_self) ?_
                    refine ev_r_iconst (pc := 303) (k := 0) (by decide +kernel) ?_
                    refine ev_r_virt (pc := 304) (y := 456) (mi := 239) (na := 2) (k := 621) (as := [.int (Int32.ofInt x109), .int (Int32.ofInt 0)]) (rest := []) (encc := ev_oU) (Q := ev_PU) (fun x S1 h => jt_239 d (by omega) Q x109 0 hx109 (by decide) s114 x S1 h) (by exact ev_ob_621) (by decide +kernel) (by decide +kernel) (by decide +kernel) (by decide +kernel) rfl (by (try simp only [ev_sum, ev_nv_cat]); first | done | rfl) ?_
                    intro _ s115 _
                    show ev_w _ _ _ _ _ [] _ _ _ _
                    refine ev_r_goto (pc := 307) (o := 126) (t := 433) (by decide +kernel) (by decide +kernel) ?_
                    exact ev_r_return (pc := 433) (x := ()) trivial (by decide +kernel) (by decide +kernel) rfl
                  · intro K268 hK268
                    refine ev_r_jn (Q := fun K => ∀ (s119 : ev_St) (w116 : List (Nat × Value)), ev_lk w116 0 = some (.ref 621) → ev_lk w116 2 = some (.int (Int32.ofInt x8)) → ev_w none (ev_Mof 261) d 263 w116 [.ref 621] s119 (K  s119) ev_eU ev_PU) ?_ ?_
                    · intro  s119 w116 e117 e118
                      refine ev_r_iconst (pc := 263) (k := 1) (by decide +kernel) ?_
                      refine ev_r_goto (pc := 264) (o := 4) (t := 268) (by decide +kernel) (by decide +kernel) ?_
                      exact hK268 1 (by decide) s119 _ (by exact e117) (by exact e118)
                    · intro K263 hK263
                      refine ev_r_if (pc := 243) (q := .ne) (o := 20) (t := 263) (c := x99 ≠ 0) (by decide +kernel) (ev_k_ne hx99 ev_rng0) (by decide +kernel) ?_ ?_
                      · intro c120
                        exact hK263  s15 _ (by exact e11) (by exact e13)
                      · intro c120
                        refine ev_r_iload_n (pc := 246) (k := 2) (v := Int32.ofInt x8) (by decide +kernel) (by exact e13) ?_
                        refine ev_r_bipush (pc := 247) (k := 49) (by decide +kernel) (by decide +kernel) ?_
                        refine ev_r_bipush (pc := 249) (k := 57) (by decide +kernel) (by decide +kernel) ?_
                        refine ev_r_stat (pc := 251) (y := 325) (kind := 2) (mi := 222) (na := 3) (as := [.int (Int32.ofInt x8), .int (Int32.ofInt 49), .int (Int32.ofInt 57)]) (rest := [.ref 621]) (encc := ev_oI) (Q := ev_bl) (fun x S1 h => jt_222 d (by omega) Q x8 49 57 hx8 (by decide) (by decide) s15 x S1 h) (Or.inl rfl) (by decide +kernel) (by decide +kernel) (by decide +kernel) (by decide +kernel) rfl (by (try simp only [ev_sum, ev_nv_cat]); first | done | rfl) ?_
                        intro x122 s121 hx122
                        replace hx122 := ev_bl_rng hx122
                        show ev_w _ _ _ _ _ [.int (Int32.ofInt x122), .ref 621] _ _ _ _
                        refine ev_r_if (pc := 254) (q := .eq) (o := 9) (t := 263) (c := x122 = 0) (by decide +kernel) (ev_k_eq hx122 ev_rng0) (by decide +kernel) ?_ ?_
                        · intro c123
                          exact hK263  s121 _ (by exact e11) (by exact e13)
                        · intro c123
                          refine ev_r_iload_n (pc := 257) (k := 3) (v := Int32.ofInt x9) (by decide +kernel) (by exact e14) ?_
                          refine ev_r_bipush (pc := 258) (k := 41) (by decide +kernel) (by decide +kernel) ?_
                          refine ev_r_icmp (pc := 260) (q := .eq) (o := 7) (t := 267) (c := x9 = 41) (by decide +kernel) (ev_k_eq hx9 (by decide)) (by decide +kernel) ?_ ?_
                          · intro c124
                            refine ev_r_iconst (pc := 267) (k := 0) (by decide +kernel) ?_
                            exact hK268 0 (by decide) s121 _ (by exact e11) (by exact e13)
                          · intro c124
                            exact hK263  s121 _ (by exact e11) (by exact e13)
              · intro c48
                exact hK164  s15 _ (by exact e11) (by exact e12)
    · intro c16
      refine ev_r_aload_n (pc := 88) (k := 0) (v := .ref 621) trivial (by decide +kernel) (by exact e11) ?_
      refine ev_r_aload_n (pc := 89) (k := 0) (v := .ref 621) trivial (by decide +kernel) (by exact e11) ?_
      refine ev_r_getI (pc := 90) (y := 352) (ci := 13) (f := 25) (fin := 0) (by decide +kernel) (by decide +kernel) (by exact ev_ob_621) rfl ?_
      intro x125 hx125
      refine ev_r_jn (Q := fun K => ∀ (x126 : Int) (hx126 : ev_rng x126), ∀ (s130 : ev_St) (w127 : List (Nat × Value)), ev_lk w127 0 = some (.ref 621) → ev_lk w127 2 = some (.int (Int32.ofInt x8)) → ev_w none (ev_Mof 261) d 114 w127 [.int (Int32.ofInt x126), .ref 621] s130 (K x126 s130) ev_eU ev_PU) ?_ ?_
      · intro x126 hx126 s130 w127 e128 e129
        refine ev_r_chk ?_
        intro c132
        refine ev_r_putI (pc := 114) (y := 352) (ci := 13) (f := 25) hx126 (by decide +kernel) (by decide +kernel) (by exact ev_ob_621) rfl (ev_fit_bl c132) ?_
        intro s131
        refine ev_r_aload_n (pc := 117) (k := 0) (v := .ref 621) trivial (by decide +kernel) (by exact e128) ?_
        refine ev_r_iconst (pc := 118) (k := 3) (by decide +kernel) ?_
        refine ev_r_virt (pc := 119) (y := 415) (mi := 234) (na := 1) (k := 621) (as := [.int (Int32.ofInt 3)]) (rest := []) (encc := ev_oU) (Q := ev_PU) (fun x S1 h => jt_234 d (by omega) Q 3 (by decide) s131 x S1 h) (by exact ev_ob_621) (by decide +kernel) (by decide +kernel) (by decide +kernel) (by decide +kernel) rfl (by (try simp only [ev_sum, ev_nv_cat]); first | done | rfl) ?_
        intro _ s133 _
        show ev_w _ _ _ _ _ [] _ _ _ _
        refine ev_r_aload_n (pc := 122) (k := 0) (v := .ref 621) trivial (by decide +kernel) (by exact e128) ?_
        refine ev_r_getI (pc := 123) (y := 352) (ci := 13) (f := 25) (fin := 0) (by decide +kernel) (by decide +kernel) (by exact ev_ob_621) rfl ?_
        intro x134 hx134
        refine ev_r_if (pc := 126) (q := .ne) (o := 307) (t := 433) (c := x134 ≠ 0) (by decide +kernel) (ev_k_ne hx134 ev_rng0) (by decide +kernel) ?_ ?_
        · intro c135
          exact ev_r_return (pc := 433) (x := ()) trivial (by decide +kernel) (by decide +kernel) rfl
        · intro c135
          refine ev_r_aload_n (pc := 129) (k := 0) (v := .ref 621) trivial (by decide +kernel) (by exact e128) ?_
          refine ev_r_iload_n (pc := 130) (k := 2) (v := Int32.ofInt x8) (by decide +kernel) (by exact e129) ?_
          refine ev_r_bipush (pc := 131) (k := 97) (by decide +kernel) (by decide +kernel) ?_
          refine ev_r_isub (pc := 133) (by decide +kernel) ?_
          intro x136 hx136
          refine ev_r_virt (pc := 134) (y := 463) (mi := 259) (na := 1) (k := 621) (as := [.int (Int32.ofInt x136)]) (rest := []) (encc := ev_oU) (Q := ev_PU) (fun x S1 h => jt_259 d (by omega) Q x136 hx136 s133 x S1 h) (by exact ev_ob_621) (by decide +kernel) (by decide +kernel) (by decide +kernel) (by decide +kernel) rfl (by (try simp only [ev_sum, ev_nv_cat]); first | done | rfl) ?_
          intro _ s137 _
          show ev_w _ _ _ _ _ [] _ _ _ _
          refine ev_r_goto (pc := 137) (o := 296) (t := 433) (by decide +kernel) (by decide +kernel) ?_
          exact ev_r_return (pc := 433) (x := ()) trivial (by decide +kernel) (by decide +kernel) rfl
      · intro K114 hK114
        refine ev_r_jn (Q := fun K => ∀ (s141 : ev_St) (w138 : List (Nat × Value)), ev_lk w138 0 = some (.ref 621) → ev_lk w138 2 = some (.int (Int32.ofInt x8)) → ev_w none (ev_Mof 261) d 109 w138 [.ref 621] s141 (K  s141) ev_eU ev_PU) ?_ ?_
        · intro  s141 w138 e139 e140
          refine ev_r_iconst (pc := 109) (k := 1) (by decide +kernel) ?_
          refine ev_r_goto (pc := 110) (o := 4) (t := 114) (by decide +kernel) (by decide +kernel) ?_
          exact hK114 1 (by decide) s141 _ (by exact e139) (by exact e140)
        · intro K109 hK109
          refine ev_r_if (pc := 93) (q := .ne) (o := 16) (t := 109) (c := x125 ≠ 0) (by decide +kernel) (ev_k_ne hx125 ev_rng0) (by decide +kernel) ?_ ?_
          · intro c142
            exact hK109  s15 _ (by exact e11) (by exact e13)
          · intro c142
            refine ev_r_iload_n (pc := 96) (k := 2) (v := Int32.ofInt x8) (by decide +kernel) (by exact e13) ?_
            refine ev_r_stat (pc := 97) (y := 329) (kind := 2) (mi := 224) (na := 1) (as := [.int (Int32.ofInt x8)]) (rest := [.ref 621]) (encc := ev_oI) (Q := ev_bl) (fun x S1 h => jt_224 d (by omega) Q x8 hx8 s15 x S1 h) (Or.inl rfl) (by decide +kernel) (by decide +kernel) (by decide +kernel) (by decide +kernel) rfl (by (try simp only [ev_sum, ev_nv_cat]); first | done | rfl) ?_
            intro x144 s143 hx144
            replace hx144 := ev_bl_rng hx144
            show ev_w _ _ _ _ _ [.int (Int32.ofInt x144), .ref 621] _ _ _ _
            refine ev_r_if (pc := 100) (q := .eq) (o := 9) (t := 109) (c := x144 = 0) (by decide +kernel) (ev_k_eq hx144 ev_rng0) (by decide +kernel) ?_ ?_
            · intro c145
              exact hK109  s143 _ (by exact e11) (by exact e13)
            · intro c145
              refine ev_r_iload_n (pc := 103) (k := 3) (v := Int32.ofInt x9) (by decide +kernel) (by exact e14) ?_
              refine ev_r_bipush (pc := 104) (k := 62) (by decide +kernel) (by decide +kernel) ?_
              refine ev_r_icmp (pc := 106) (q := .eq) (o := 7) (t := 113) (c := x9 = 62) (by decide +kernel) (ev_k_eq hx9 (by decide)) (by decide +kernel) ?_ ?_
              · intro c146
                refine ev_r_iconst (pc := 113) (k := 0) (by decide +kernel) ?_
                exact hK114 0 (by decide) s143 _ (by exact e11) (by exact e13)
              · intro c146
                exact hK109  s143 _ (by exact e11) (by exact e13)
  · intro K82 hK82
    refine ev_r_icmp (pc := 21) (q := .ne) (o := 61) (t := 82) (c := x2 ≠ 60) (by decide +kernel) (ev_k_ne hx2 (by decide)) (by decide +kernel) ?_ ?_
    · intro c147
      exact hK82 x2 hx2 x4 hx4 x6 hx6 s5 _ (by exact (ev_l1 (ev_l1 (ev_lk_st1 (by rfl) (by decide) rfl) (by decide) (by decide)) (by decide) (by decide))) (by exact (ev_l1 (ev_lk_st1 ev_lk_st1_self (by decide) rfl) (by decide) (by decide))) (by exact (ev_lk_st1 ev_lk_st1_self (by decide) rfl)) (by exact ev_lk_st1_self)
    · intro c147
      refine ev_r_iload_n (pc := 24) (k := 2) (v := Int32.ofInt x4) (by decide +kernel) (by exact (ev_lk_st1 ev_lk_st1_self (by decide) rfl)) ?_
      refine ev_r_bipush (pc := 25) (k := 61) (by decide +kernel) (by decide +kernel) ?_
      refine ev_r_jn (Q := fun K => ∀ (s151 : ev_St) (w148 : List (Nat × Value)), ev_lk w148 0 = some (.ref 621) → ev_lk w148 2 = some (.int (Int32.ofInt x4)) → ev_w none (ev_Mof 261) d 36 w148 [] s151 (K  s151) ev_eU ev_PU) ?_ ?_
      · intro  s151 w148 e149 e150
        refine ev_r_aload_n (pc := 36) (k := 0) (v := .ref 621) trivial (by decide +kernel) (by exact e149) ?_
        refine ev_r_iconst (pc := 37) (k := 2) (by decide +kernel) ?_
        refine ev_r_virt (pc := 38) (y := 415) (mi := 234) (na := 1) (k := 621) (as := [.int (Int32.ofInt 2)]) (rest := []) (encc := ev_oU) (Q := ev_PU) (fun x S1 h => jt_234 d (by omega) Q 2 (by decide) s151 x S1 h) (by exact ev_ob_621) (by decide +kernel) (by decide +kernel) (by decide +kernel) (by decide +kernel) rfl (by (try simp only [ev_sum, ev_nv_cat]); first | done | rfl) ?_
        intro _ s152 _
        show ev_w _ _ _ _ _ [] _ _ _ _
        refine ev_r_aload_n (pc := 41) (k := 0) (v := .ref 621) trivial (by decide +kernel) (by exact e149) ?_
        refine ev_r_bipush (pc := 42) (k := 12) (by decide +kernel) (by decide +kernel) ?_
        refine ev_r_virt (pc := 44) (y := 378) (mi := 237) (na := 1) (k := 621) (as := [.int (Int32.ofInt 12)]) (rest := []) (encc := ev_oI) (Q := ev_rng) (fun x S1 h => jt_237 d (by omega) Q 12 (by decide) s152 x S1 h) (by exact ev_ob_621) (by decide +kernel) (by decide +kernel) (by decide +kernel) (by decide +kernel) rfl (by (try simp only [ev_sum, ev_nv_cat]); first | done | rfl) ?_
        intro x154 s153 hx154
        show ev_w _ _ _ _ _ [.int (Int32.ofInt x154)] _ _ _ _
        refine ev_r_istore (pc := 47) (k := 4) (by decide +kernel) (by decide +kernel) rfl ?_
        refine ev_r_aload_n (pc := 49) (k := 0) (v := .ref 621) trivial (by decide +kernel) (by exact (ev_l1 e149 (by decide) (by decide))) ?_
        refine ev_r_getC (pc := 50) (y := 31) (ci := 13) (f := 10) (fin := 1) (k' := 629) (by decide +kernel) (by decide +kernel) (by exact ev_ob_621) rfl rfl ?_
        refine ev_r_aload_n (pc := 53) (k := 0) (v := .ref 621) trivial (by decide +kernel) (by exact (ev_l1 e149 (by decide) (by decide))) ?_
        refine ev_r_virt (pc := 54) (y := 356) (mi := 232) (na := 0) (k := 621) (as := []) (rest := [.ref 629]) (encc := ev_oI) (Q := ev_rng) (fun x S1 h => jt_232 d (by omega) Q   s153 x S1 h) (by exact ev_ob_621) (by decide +kernel) (by decide +kernel) (by decide +kernel) (by decide +kernel) rfl (by (try simp only [ev_sum, ev_nv_cat]); first | done | rfl) ?_
        intro x156 s155 hx156
        show ev_w _ _ _ _ _ [.int (Int32.ofInt x156), .ref 629] _ _ _ _
        refine ev_r_iload (pc := 57) (k := 4) (v := Int32.ofInt x154) (by decide +kernel) (by exact ev_lk_st1_self) ?_
        refine ev_r_iadd (pc := 59) (by decide +kernel) ?_
        intro x157 hx157
        refine ev_r_iload_n (pc := 60) (k := 2) (v := Int32.ofInt x4) (by decide +kernel) (by exact (ev_l1 e150 (by decide) (by decide))) ?_
        refine ev_r_bipush (pc := 61) (k := 33) (by decide +kernel) (by decide +kernel) ?_
        refine ev_r_jn (Q := fun K => ∀ (x158 : Int) (hx158 : ev_rng x158), ∀ (x161 : Int) (hx161 : ev_rng x161), ∀ (x160 : Int) (hx160 : ev_rng x160), ∀ (r159 : Nat) (hr159 : ev_isAb r159 1 .int = true), ∀ (s165 : ev_St) (w162 : List (Nat × Value)), ev_lk w162 0 = some (.ref 621) → ev_lk w162 4 = some (.int (Int32.ofInt x158)) → ev_w none (ev_Mof 261) d 71 w162 [.int (Int32.ofInt x161), .int (Int32.ofInt x160), .ref r159] s165 (K x158 x161 x160 r159 s165) ev_eU ev_PU) ?_ ?_
        · intro x158 hx158 x161 hx161 x160 hx160 r159 hr159 s165 w162 e163 e164
          refine ev_r_iast (pc := 71) hx161 hx160 (by decide +kernel) (by exact hr159) ?_
          intro s166
          refine ev_r_aload_n (pc := 72) (k := 0) (v := .ref 621) trivial (by decide +kernel) (by exact e163) ?_
          refine ev_r_iload (pc := 73) (k := 4) (v := Int32.ofInt x158) (by decide +kernel) (by exact e164) ?_
          refine ev_r_iconst (pc := 75) (k := 0) (by decide +kernel) ?_
          refine ev_r_virt (pc := 76) (y := 456) (mi := 239) (na := 2) (k := 621) (as := [.int (Int32.ofInt x158), .int (Int32.ofInt 0)]) (rest := []) (encc := ev_oU) (Q := ev_PU) (fun x S1 h => jt_239 d (by omega) Q x158 0 hx158 (by decide) s166 x S1 h) (by exact ev_ob_621) (by decide +kernel) (by decide +kernel) (by decide +kernel) (by decide +kernel) rfl (by (try simp only [ev_sum, ev_nv_cat]); first | done | rfl) ?_
          intro _ s167 _
          show ev_w _ _ _ _ _ [] _ _ _ _
          refine ev_r_goto (pc := 79) (o := 354) (t := 433) (by decide +kernel) (by decide +kernel) ?_
          exact ev_r_return (pc := 433) (x := ()) trivial (by decide +kernel) (by decide +kernel) rfl
        · intro K71 hK71
          refine ev_r_icmp (pc := 63) (q := .ne) (o := 7) (t := 70) (c := x4 ≠ 33) (by decide +kernel) (ev_k_ne hx4 (by decide)) (by decide +kernel) ?_ ?_
          · intro c168
            refine ev_r_iconst (pc := 70) (k := 0) (by decide +kernel) ?_
            exact hK71 x154 hx154 0 (by decide) x157 hx157 629 ev_ab_629 s155 _ (by exact (ev_l1 e149 (by decide) (by decide))) (by exact ev_lk_st1_self)
          · intro c168
            refine ev_r_iconst (pc := 66) (k := 1) (by decide +kernel) ?_
            refine ev_r_goto (pc := 67) (o := 4) (t := 71) (by decide +kernel) (by decide +kernel) ?_
            exact hK71 x154 hx154 1 (by decide) x157 hx157 629 ev_ab_629 s155 _ (by exact (ev_l1 e149 (by decide) (by decide))) (by exact ev_lk_st1_self)
      · intro K36 hK36
        refine ev_r_icmp (pc := 27) (q := .eq) (o := 9) (t := 36) (c := x4 = 61) (by decide +kernel) (ev_k_eq hx4 (by decide)) (by decide +kernel) ?_ ?_
        · intro c169
          exact hK36  s5 _ (by exact (ev_l1 (ev_l1 (ev_lk_st1 (by rfl) (by decide) rfl) (by decide) (by decide)) (by decide) (by decide))) (by exact (ev_lk_st1 ev_lk_st1_self (by decide) rfl))
        · intro c169
          refine ev_r_iload_n (pc := 30) (k := 2) (v := Int32.ofInt x4) (by decide +kernel) (by exact (ev_lk_st1 ev_lk_st1_self (by decide) rfl)) ?_
          refine ev_r_bipush (pc := 31) (k := 33) (by decide +kernel) (by decide +kernel) ?_
          refine ev_r_icmp (pc := 33) (q := .ne) (o := 49) (t := 82) (c := x4 ≠ 33) (by decide +kernel) (ev_k_ne hx4 (by decide)) (by decide +kernel) ?_ ?_
          · intro c170
            exact hK82 x2 hx2 x4 hx4 x6 hx6 s5 _ (by exact (ev_l1 (ev_l1 (ev_lk_st1 (by rfl) (by decide) rfl) (by decide) (by decide)) (by decide) (by decide))) (by exact (ev_l1 (ev_lk_st1 ev_lk_st1_self (by decide) rfl) (by decide) (by decide))) (by exact (ev_lk_st1 ev_lk_st1_self (by decide) rfl)) (by exact ev_lk_st1_self)
          · intro c170
            exact hK36  s5 _ (by exact (ev_l1 (ev_l1 (ev_lk_st1 (by rfl) (by decide) rfl) (by decide) (by decide)) (by decide) (by decide))) (by exact (ev_lk_st1 ev_lk_st1_self (by decide) rfl))
/-- MendBenchModel.verbs()V -/
def jm_262 (Q : Nat)  (S : ev_St) : Option ((Unit) × ev_St) := ev_bd (jm_233 Q 0 S) fun x2 s1 => ev_b (s1.1 621 25) fun x3 => ev_jn (fun (x4 : Int) (x5 : Int) (s9 : ev_St) => ev_if (ev_bl x5) (ev_b (ev_pI s9 621 25 x5) fun s10 => ev_bd (jm_234 Q 2 s10) fun _ s12 => ev_jn (fun (x13 : Int) (s16 : ev_St) => ev_bd (jm_237 Q x13 s16) fun x18 s17 => ev_b (ev_pI s17 621 39 ((-1))) fun s19 => some ((), s19)) fun K80 => if x4 ≠ 70 then (if x4 ≠ 67 then (K80 17 s12) else (K80 16 s12)) else (K80 15 s12))) fun K47 => ev_jn (fun (x22 : Int) (s26 : ev_St) => K47 x22 1 s26) fun K42 => if x3 ≠ 0 then (K42 x2 s1) else (ev_jn (fun  (s31 : ev_St) => ev_bd (jm_233 Q 1 s31) fun x33 s32 => if x33 = 41 then (K47 x2 0 s32) else (K42 x2 s32)) fun K32 => if x2 = 70 then (K32  s1) else (if x2 = 67 then (K32  s1) else (if x2 ≠ 83 then (K42 x2 s1) else (K32  s1))))
theorem jt_262 (d : Nat) (hd : 4 ≤ d) (Q : Nat)   (S : ev_St) (x : Unit) (S' : ev_St) (hJ : jm_262 Q  S = some (x, S')) : ev_Ref d 262 [.ref 621] S (ev_eU x) S' (ev_PU x) := by
  obtain ⟨d, rfl⟩ : ∃ e, d = e + 1 := ⟨d - 1, by omega⟩
  refine ev_ref_of (P := ev_PU) (lv := [(0, .ref 621)]) (by decide +kernel) (by (try simp only [ev_sum, ev_nv_cat]); first | done | rfl) (by (try simp only [lv_args, ev_nv_cat]); first | done | rfl) ?_ x S' hJ
  unfold jm_262
  refine ev_r_aload_n (pc := 0) (k := 0) (v := .ref 621) trivial (by decide +kernel) (by rfl) ?_
  refine ev_r_iconst (pc := 1) (k := 0) (by decide +kernel) ?_
  refine ev_r_virt (pc := 2) (y := 409) (mi := 233) (na := 1) (k := 621) (as := [.int (Int32.ofInt 0)]) (rest := []) (encc := ev_oI) (Q := ev_rng) (fun x S1 h => jt_233 d (by omega) Q 0 (by decide) S x S1 h) (by exact ev_ob_621) (by decide +kernel) (by decide +kernel) (by decide +kernel) (by decide +kernel) rfl (by (try simp only [ev_sum, ev_nv_cat]); first | done | rfl) ?_
  intro x2 s1 hx2
  show ev_w _ _ _ _ _ [.int (Int32.ofInt x2)] _ _ _ _
  refine ev_r_istore_n (pc := 5) (k := 1) (by decide +kernel) (by decide +kernel) rfl ?_
  refine ev_r_aload_n (pc := 6) (k := 0) (v := .ref 621) trivial (by decide +kernel) (by exact (ev_lk_st1 (by rfl) (by decide) rfl)) ?_
  refine ev_r_aload_n (pc := 7) (k := 0) (v := .ref 621) trivial (by decide +kernel) (by exact (ev_lk_st1 (by rfl) (by decide) rfl)) ?_
  refine ev_r_getI (pc := 8) (y := 352) (ci := 13) (f := 25) (fin := 0) (by decide +kernel) (by decide +kernel) (by exact ev_ob_621) rfl ?_
  intro x3 hx3
  refine ev_r_jn (Q := fun K => ∀ (x4 : Int) (hx4 : ev_rng x4), ∀ (x5 : Int) (hx5 : ev_rng x5), ∀ (s9 : ev_St) (w6 : List (Nat × Value)), ev_lk w6 0 = some (.ref 621) → ev_lk w6 1 = some (.int (Int32.ofInt x4)) → ev_w none (ev_Mof 262) d 47 w6 [.int (Int32.ofInt x5), .ref 621] s9 (K x4 x5 s9) ev_eU ev_PU) ?_ ?_
  · intro x4 hx4 x5 hx5 s9 w6 e7 e8
    refine ev_r_chk ?_
    intro c11
    refine ev_r_putI (pc := 47) (y := 352) (ci := 13) (f := 25) hx5 (by decide +kernel) (by decide +kernel) (by exact ev_ob_621) rfl (ev_fit_bl c11) ?_
    intro s10
    refine ev_r_aload_n (pc := 50) (k := 0) (v := .ref 621) trivial (by decide +kernel) (by exact e7) ?_
    refine ev_r_iconst (pc := 51) (k := 2) (by decide +kernel) ?_
    refine ev_r_virt (pc := 52) (y := 415) (mi := 234) (na := 1) (k := 621) (as := [.int (Int32.ofInt 2)]) (rest := []) (encc := ev_oU) (Q := ev_PU) (fun x S1 h => jt_234 d (by omega) Q 2 (by decide) s10 x S1 h) (by exact ev_ob_621) (by decide +kernel) (by decide +kernel) (by decide +kernel) (by decide +kernel) rfl (by (try simp only [ev_sum, ev_nv_cat]); first | done | rfl) ?_
    intro _ s12 _
    show ev_w _ _ _ _ _ [] _ _ _ _
    refine ev_r_aload_n (pc := 55) (k := 0) (v := .ref 621) trivial (by decide +kernel) (by exact e7) ?_
    refine ev_r_iload_n (pc := 56) (k := 1) (v := Int32.ofInt x4) (by decide +kernel) (by exact e8) ?_
    refine ev_r_bipush (pc := 57) (k := 70) (by decide +kernel) (by decide +kernel) ?_
    refine ev_r_jn (Q := fun K => ∀ (x13 : Int) (hx13 : ev_rng x13), ∀ (s16 : ev_St) (w14 : List (Nat × Value)), ev_lk w14 0 = some (.ref 621) → ev_w none (ev_Mof 262) d 80 w14 [.int (Int32.ofInt x13), .ref 621] s16 (K x13 s16) ev_eU ev_PU) ?_ ?_
    · intro x13 hx13 s16 w14 e15
      refine ev_r_virt (pc := 80) (y := 378) (mi := 237) (na := 1) (k := 621) (as := [.int (Int32.ofInt x13)]) (rest := []) (encc := ev_oI) (Q := ev_rng) (fun x S1 h => jt_237 d (by omega) Q x13 hx13 s16 x S1 h) (by exact ev_ob_621) (by decide +kernel) (by decide +kernel) (by decide +kernel) (by decide +kernel) rfl (by (try simp only [ev_sum, ev_nv_cat]); first | done | rfl) ?_
      intro x18 s17 hx18
      show ev_w _ _ _ _ _ [.int (Int32.ofInt x18)] _ _ _ _
      refine ev_r_istore_n (pc := 83) (k := 2) (by decide +kernel) (by decide +kernel) rfl ?_
      refine ev_r_aload_n (pc := 84) (k := 0) (v := .ref 621) trivial (by decide +kernel) (by exact (ev_l1 e15 (by decide) (by decide))) ?_
      refine ev_r_iconst (pc := 85) (k := -1) (by decide +kernel) ?_
      refine ev_r_putI (pc := 86) (y := 375) (ci := 13) (f := 39) (by decide) (by decide +kernel) (by decide +kernel) (by exact ev_ob_621) rfl rfl ?_
      intro s19
      exact ev_r_return (pc := 89) (x := ()) trivial (by decide +kernel) (by decide +kernel) rfl
    · intro K80 hK80
      refine ev_r_icmp (pc := 59) (q := .ne) (o := 8) (t := 67) (c := x4 ≠ 70) (by decide +kernel) (ev_k_ne hx4 (by decide)) (by decide +kernel) ?_ ?_
      · intro c20
        refine ev_r_iload_n (pc := 67) (k := 1) (v := Int32.ofInt x4) (by decide +kernel) (by exact e8) ?_
        refine ev_r_bipush (pc := 68) (k := 67) (by decide +kernel) (by decide +kernel) ?_
        refine ev_r_icmp (pc := 70) (q := .ne) (o := 8) (t := 78) (c := x4 ≠ 67) (by decide +kernel) (ev_k_ne hx4 (by decide)) (by decide +kernel) ?_ ?_
        · intro c21
          refine ev_r_bipush (pc := 78) (k := 17) (by decide +kernel) (by decide +kernel) ?_
          exact hK80 17 (by decide) s12 _ (by exact e7)
        · intro c21
          refine ev_r_bipush (pc := 73) (k := 16) (by decide +kernel) (by decide +kernel) ?_
          refine ev_r_goto (pc := 75) (o := 5) (t := 80) (by decide +kernel) (by decide +kernel) ?_
          exact hK80 16 (by decide) s12 _ (by exact e7)
      · intro c20
        refine ev_r_bipush (pc := 62) (k := 15) (by decide +kernel) (by decide +kernel) ?_
        refine ev_r_goto (pc := 64) (o := 16) (t := 80) (by decide +kernel) (by decide +kernel) ?_
        exact hK80 15 (by decide) s12 _ (by exact e7)
  · intro K47 hK47
    refine ev_r_jn (Q := fun K => ∀ (x22 : Int) (hx22 : ev_rng x22), ∀ (s26 : ev_St) (w23 : List (Nat × Value)), ev_lk w23 0 = some (.ref 621) → ev_lk w23 1 = some (.int (Int32.ofInt x22)) → ev_w none (ev_Mof 262) d 42 w23 [.ref 621] s26 (K x22 s26) ev_eU ev_PU) ?_ ?_
    · intro x22 hx22 s26 w23 e24 e25
      refine ev_r_iconst (pc := 42) (k := 1) (by decide +kernel) ?_
      refine ev_r_goto (pc := 43) (o := 4) (t := 47) (by decide +kernel) (by decide +kernel) ?_
      exact hK47 x22 hx22 1 (by decide) s26 _ (by exact e24) (by exact e25)
    · intro K42 hK42
      refine ev_r_if (pc := 11) (q := .ne) (o := 31) (t := 42) (c := x3 ≠ 0) (by decide +kernel) (ev_k_ne hx3 ev_rng0) (by decide +kernel) ?_ ?_
      · intro c27
        exact hK42 x2 hx2 s1 _ (by exact (ev_lk_st1 (by rfl) (by decide) rfl)) (by exact ev_lk_st1_self)
      · intro c27
        refine ev_r_iload_n (pc := 14) (k := 1) (v := Int32.ofInt x2) (by decide +kernel) (by exact ev_lk_st1_self) ?_
        refine ev_r_bipush (pc := 15) (k := 70) (by decide +kernel) (by decide +kernel) ?_
        refine ev_r_jn (Q := fun K => ∀ (s31 : ev_St) (w28 : List (Nat × Value)), ev_lk w28 0 = some (.ref 621) → ev_lk w28 1 = some (.int (Int32.ofInt x2)) → ev_w none (ev_Mof 262) d 32 w28 [.ref 621] s31 (K  s31) ev_eU ev_PU) ?_ ?_
        · intro  s31 w28 e29 e30
          refine ev_r_aload_n (pc := 32) (k := 0) (v := .ref 621) trivial (by decide +kernel) (by exact e29) ?_
          refine ev_r_iconst (pc := 33) (k := 1) (by decide +kernel) ?_
          refine ev_r_virt (pc := 34) (y := 409) (mi := 233) (na := 1) (k := 621) (as := [.int (Int32.ofInt 1)]) (rest := [.ref 621]) (encc := ev_oI) (Q := ev_rng) (fun x S1 h => jt_233 d (by omega) Q 1 (by decide) s31 x S1 h) (by exact ev_ob_621) (by decide +kernel) (by decide +kernel) (by decide +kernel) (by decide +kernel) rfl (by (try simp only [ev_sum, ev_nv_cat]); first | done | rfl) ?_
          intro x33 s32 hx33
          show ev_w _ _ _ _ _ [.int (Int32.ofInt x33), .ref 621] _ _ _ _
          refine ev_r_bipush (pc := 37) (k := 41) (by decide +kernel) (by decide +kernel) ?_
          refine ev_r_icmp (pc := 39) (q := .eq) (o := 7) (t := 46) (c := x33 = 41) (by decide +kernel) (ev_k_eq hx33 (by decide)) (by decide +kernel) ?_ ?_
          · intro c34
            refine ev_r_iconst (pc := 46) (k := 0) (by decide +kernel) ?_
            exact hK47 x2 hx2 0 (by decide) s32 _ (by exact e29) (by exact e30)
          · intro c34
            exact hK42 x2 hx2 s32 _ (by exact e29) (by exact e30)
        · intro K32 hK32
          refine ev_r_icmp (pc := 17) (q := .eq) (o := 15) (t := 32) (c := x2 = 70) (by decide +kernel) (ev_k_eq hx2 (by decide)) (by decide +kernel) ?_ ?_
          · intro c35
            exact hK32  s1 _ (by exact (ev_lk_st1 (by rfl) (by decide) rfl)) (by exact ev_lk_st1_self)
          · intro c35
            refine ev_r_iload_n (pc := 20) (k := 1) (v := Int32.ofInt x2) (by decide +kernel) (by exact ev_lk_st1_self) ?_
            refine ev_r_bipush (pc := 21) (k := 67) (by decide +kernel) (by decide +kernel) ?_
            refine ev_r_icmp (pc := 23) (q := .eq) (o := 9) (t := 32) (c := x2 = 67) (by decide +kernel) (ev_k_eq hx2 (by decide)) (by decide +kernel) ?_ ?_
            · intro c36
              exact hK32  s1 _ (by exact (ev_lk_st1 (by rfl) (by decide) rfl)) (by exact ev_lk_st1_self)
            · intro c36
              refine ev_r_iload_n (pc := 26) (k := 1) (v := Int32.ofInt x2) (by decide +kernel) (by exact ev_lk_st1_self) ?_
              refine ev_r_bipush (pc := 27) (k := 83) (by decide +kernel) (by decide +kernel) ?_
              refine ev_r_icmp (pc := 29) (q := .ne) (o := 13) (t := 42) (c := x2 ≠ 83) (by decide +kernel) (ev_k_ne hx2 (by decide)) (by decide +kernel) ?_ ?_
              · intro c37
                exact hK42 x2 hx2 s1 _ (by exact (ev_lk_st1 (by rfl) (by decide) rfl)) (by exact ev_lk_st1_self)
              · intro c37
                exact hK32  s1 _ (by exact (ev_lk_st1 (by rfl) (by decide) rfl)) (by exact ev_lk_st1_self)
/-- MendBenchModel.reads()V -/
def jm_263 (Q : Nat)  (S : ev_St) : Option ((Unit) × ev_St) := ev_bd (jm_233 Q 0 S) fun x2 s1 => ev_jn (fun  (s5 : ev_St) => ev_bd (jm_255 Q  s5) fun _ s6 => some ((), s6)) fun K30 => if x2 = 63 then (K30  s1) else (if x2 = 42 then (K30  s1) else (if x2 = 43 then (K30  s1) else (if x2 ≠ 123 then (if x2 ≠ 92 then (if x2 ≠ 91 then (if x2 ≠ 40 then (if x2 ≠ 41 then (if x2 ≠ 124 then (ev_bd (jm_234 Q 1 s1) fun _ s16 => if x2 ≠ 46 then (ev_jn (fun  (s21 : ev_St) => ev_bd (jm_232 Q  s21) fun x23 s22 => ev_jn (fun (x25 : Int) (x24 : Int) (s28 : ev_St) => ev_bd (jm_237 Q x25 s28) fun x30 s29 => ev_ck (x24 + x30) fun x31 => ev_b (s29.1 621 40) fun x32 => ev_b (ev_iand x32 4) fun x33 => ev_if ((0 : Int) ≤ x31 ∧ x31 < (ev_aln 629 : Int)) (ev_b (ev_pI s29 629 (Int.toNat x31) x33) fun s34 => some ((), s34))) fun K308 => if x2 ≠ 94 then (K308 2 x23 s22) else (K308 1 x23 s22)) fun K292 => if x2 = 94 then (K292  s16) else (if x2 ≠ 36 then (ev_b (s16.1 621 40) fun x38 => ev_b (ev_iand x38 1) fun x39 => ev_jn (fun (x42 : Int) (x41 : Int) (x40 : Int) (s45 : ev_St) => ev_bd (jm_245 Q x40 x41 x42 s45) fun _ s46 => ev_b (s46.2.1 621 41) fun y47 => ev_b (s46.2.1 621 42) fun y48 => ev_bd (jm_238 Q y47 y48 s46) fun _ s49 => some ((), s49)) fun K345 => if x39 ≤ 0 then (K345 0 x2 x2 s16) else (K345 1 x2 x2 s16)) else (K292  s16))) else (ev_b (s16.1 621 40) fun x51 => ev_b (ev_iand x51 2) fun x52 => ev_jn (fun (y53 : Int64) (s55 : ev_St) => ev_bd (jm_238 Q y53 ((4294967295)) s55) fun _ s56 => some ((), s56)) fun K271 => if x52 ≤ 0 then (K271 ((-2)) s16) else (K271 ((-1)) s16))) else (ev_bd (jm_234 Q 1 s1) fun _ s58 => ev_bd (jm_241 Q  s58) fun _ s59 => some ((), s59))) else (ev_bd (jm_234 Q 1 s1) fun _ s60 => ev_b (s60.1 621 25) fun x61 => ev_jn (fun (x62 : Int) (s65 : ev_St) => ev_if (ev_bl x62) (ev_b (ev_pI s65 621 25 x62) fun s66 => ev_b (s66.1 621 25) fun x68 => if x68 ≠ 0 then (some ((), s66)) else (ev_bd (jm_240 Q  s66) fun _ s70 => some ((), s70)))) fun K206 => ev_jn (fun  (s73 : ev_St) => K206 1 s73) fun K201 => if x61 ≠ 0 then (K201  s60) else (ev_b (s60.1 621 31) fun x75 => if x75 < 2 then (K201  s60) else (ev_b (s60.1 621 31) fun x77 => ev_ck (x77 - 1) fun x78 => ev_if ((0 : Int) ≤ x78 ∧ x78 < (ev_aln 650 : Int)) (ev_b (s60.1 650 (Int.toNat x78)) fun x79 => if x79 = 0 then (K206 0 s60) else (K201  s60)))))) else (ev_bd (jm_233 Q 1 s1) fun x82 s81 => ev_jn (fun (x83 : Int) (s86 : ev_St) => ev_bd (jm_233 Q 1 s86) fun x88 s87 => ev_jn (fun (x89 : Int) (x90 : Int) (s94 : ev_St) => ev_jn (fun (x95 : Int) (x96 : Int) (s101 : ev_St) => ev_bd (jm_234 Q x96 s101) fun _ s102 => if x89 = 0 then (if x95 = 0 then (ev_bd (jm_259 Q ((-1)) s102) fun _ s105 => some ((), s105)) else (ev_bd (jm_262 Q  s102) fun _ s106 => some ((), s106))) else (ev_bd (jm_261 Q  s102) fun _ s107 => some ((), s107))) fun K127 => ev_jn (fun (x108 : Int) (s113 : ev_St) => K127 x108 2 s113) fun K122 => if x89 ≠ 0 then (K122 x90 s94) else (if x90 = 0 then (K127 x90 1 s94) else (K122 x90 s94))) fun K112 => if x88 ≠ 42 then (K112 x83 0 s87) else (K112 x83 1 s87)) fun K96 => if x82 ≠ 63 then (K96 0 s81) else (K96 1 s81))) else (ev_bd (jm_253 Q  s1) fun _ s118 => ev_b (s118.2.1 621 41) fun y119 => ev_b (s118.2.1 621 42) fun y120 => ev_bd (jm_238 Q y119 y120 s118) fun _ s121 => some ((), s121))) else (ev_bd (jm_256 Q  s1) fun _ s122 => some ((), s122))) else (K30  s1))))
theorem jt_263 (d : Nat) (hd : 7 ≤ d) (Q : Nat)   (S : ev_St) (x : Unit) (S' : ev_St) (hJ : jm_263 Q  S = some (x, S')) : ev_Ref d 263 [.ref 621] S (ev_eU x) S' (ev_PU x) := by
  obtain ⟨d, rfl⟩ : ∃ e, d = e + 1 := ⟨d - 1, by omega⟩
  refine ev_ref_of (P := ev_PU) (lv := [(0, .ref 621)]) (by decide +kernel) (by (try simp only [ev_sum, ev_nv_cat]); first | done | rfl) (by (try simp only [lv_args, ev_nv_cat]); first | done | rfl) ?_ x S' hJ
  unfold jm_263
  refine ev_r_aload_n (pc := 0) (k := 0) (v := .ref 621) trivial (by decide +kernel) (by rfl) ?_
  refine ev_r_iconst (pc := 1) (k := 0) (by decide +kernel) ?_
  refine ev_r_virt (pc := 2) (y := 409) (mi := 233) (na := 1) (k := 621) (as := [.int (Int32.ofInt 0)]) (rest := []) (encc := ev_oI) (Q := ev_rng) (fun x S1 h => jt_233 d (by omega) Q 0 (by decide) S x S1 h) (by exact ev_ob_621) (by decide +kernel) (by decide +kernel) (by decide +kernel) (by decide +kernel) rfl (by (try simp only [ev_sum, ev_nv_cat]); first | done | rfl) ?_
  intro x2 s1 hx2
  show ev_w _ _ _ _ _ [.int (Int32.ofInt x2)] _ _ _ _
  refine ev_r_istore_n (pc := 5) (k := 1) (by decide +kernel) (by decide +kernel) rfl ?_
  refine ev_r_iload_n (pc := 6) (k := 1) (v := Int32.ofInt x2) (by decide +kernel) (by exact ev_lk_st1_self) ?_
  refine ev_r_bipush (pc := 7) (k := 63) (by decide +kernel) (by decide +kernel) ?_
  refine ev_r_jn (Q := fun K => ∀ (s5 : ev_St) (w3 : List (Nat × Value)), ev_lk w3 0 = some (.ref 621) → ev_w none (ev_Mof 263) d 30 w3 [] s5 (K  s5) ev_eU ev_PU) ?_ ?_
  · intro  s5 w3 e4
    refine ev_r_aload_n (pc := 30) (k := 0) (v := .ref 621) trivial (by decide +kernel) (by exact e4) ?_
    refine ev_r_virt (pc := 31) (y := 472) (mi := 255) (na := 0) (k := 621) (as := []) (rest := []) (encc := ev_oU) (Q := ev_PU) (fun x S1 h => jt_255 d (by omega) Q   s5 x S1 h) (by exact ev_ob_621) (by decide +kernel) (by decide +kernel) (by decide +kernel) (by decide +kernel) rfl (by (try simp only [ev_sum, ev_nv_cat]); first | done | rfl) ?_
    intro _ s6 _
    show ev_w _ _ _ _ _ [] _ _ _ _
    refine ev_r_goto (pc := 34) (o := 326) (t := 360) (by decide +kernel) (by decide +kernel) ?_
    exact ev_r_return (pc := 360) (x := ()) trivial (by decide +kernel) (by decide +kernel) rfl
  · intro K30 hK30
    refine ev_r_icmp (pc := 9) (q := .eq) (o := 21) (t := 30) (c := x2 = 63) (by decide +kernel) (ev_k_eq hx2 (by decide)) (by decide +kernel) ?_ ?_
    · intro c7
      exact hK30  s1 _ (by exact (ev_lk_st1 (by rfl) (by decide) rfl))
    · intro c7
      refine ev_r_iload_n (pc := 12) (k := 1) (v := Int32.ofInt x2) (by decide +kernel) (by exact ev_lk_st1_self) ?_
      refine ev_r_bipush (pc := 13) (k := 42) (by decide +kernel) (by decide +kernel) ?_
      refine ev_r_icmp (pc := 15) (q := .eq) (o := 15) (t := 30) (c := x2 = 42) (by decide +kernel) (ev_k_eq hx2 (by decide)) (by decide +kernel) ?_ ?_
      · intro c8
        exact hK30  s1 _ (by exact (ev_lk_st1 (by rfl) (by decide) rfl))
      · intro c8
        refine ev_r_iload_n (pc := 18) (k := 1) (v := Int32.ofInt x2) (by decide +kernel) (by exact ev_lk_st1_self) ?_
        refine ev_r_bipush (pc := 19) (k := 43) (by decide +kernel) (by decide +kernel) ?_
        refine ev_r_icmp (pc := 21) (q := .eq) (o := 9) (t := 30) (c := x2 = 43) (by decide +kernel) (ev_k_eq hx2 (by decide)) (by decide +kernel) ?_ ?_
        · intro c9
          exact hK30  s1 _ (by exact (ev_lk_st1 (by rfl) (by decide) rfl))
        · intro c9
          refine ev_r_iload_n (pc := 24) (k := 1) (v := Int32.ofInt x2) (by decide +kernel) (by exact ev_lk_st1_self) ?_
          refine ev_r_bipush (pc := 25) (k := 123) (by decide +kernel) (by decide +kernel) ?_
          refine ev_r_icmp (pc := 27) (q := .ne) (o := 10) (t := 37) (c := x2 ≠ 123) (by decide +kernel) (ev_k_ne hx2 (by decide)) (by decide +kernel) ?_ ?_
          · intro c10
            refine ev_r_iload_n (pc := 37) (k := 1) (v := Int32.ofInt x2) (by decide +kernel) (by exact ev_lk_st1_self) ?_
            refine ev_r_bipush (pc := 38) (k := 92) (by decide +kernel) (by decide +kernel) ?_
            refine ev_r_icmp (pc := 40) (q := .ne) (o := 10) (t := 50) (c := x2 ≠ 92) (by decide +kernel) (ev_k_ne hx2 (by decide)) (by decide +kernel) ?_ ?_
            · intro c11
              refine ev_r_iload_n (pc := 50) (k := 1) (v := Int32.ofInt x2) (by decide +kernel) (by exact ev_lk_st1_self) ?_
              refine ev_r_bipush (pc := 51) (k := 91) (by decide +kernel) (by decide +kernel) ?_
              refine ev_r_icmp (pc := 53) (q := .ne) (o := 22) (t := 75) (c := x2 ≠ 91) (by decide +kernel) (ev_k_ne hx2 (by decide)) (by decide +kernel) ?_ ?_
              · intro c12
                refine ev_r_iload_n (pc := 75) (k := 1) (v := Int32.ofInt x2) (by decide +kernel) (by exact ev_lk_st1_self) ?_
                refine ev_r_bipush (pc := 76) (k := 40) (by decide +kernel) (by decide +kernel) ?_
                refine ev_r_icmp (pc := 78) (q := .ne) (o := 82) (t := 160) (c := x2 ≠ 40) (by decide +kernel) (ev_k_ne hx2 (by decide)) (by decide +kernel) ?_ ?_
                · intro c13
                  refine ev_r_iload_n (pc := 160) (k := 1) (v := Int32.ofInt x2) (by decide +kernel) (by exact ev_lk_st1_self) ?_
                  refine ev_r_bipush (pc := 161) (k := 41) (by decide +kernel) (by decide +kernel) ?_
                  refine ev_r_icmp (pc := 163) (q := .ne) (o := 60) (t := 223) (c := x2 ≠ 41) (by decide +kernel) (ev_k_ne hx2 (by decide)) (by decide +kernel) ?_ ?_
                  · intro c14
                    refine ev_r_iload_n (pc := 223) (k := 1) (v := Int32.ofInt x2) (by decide +kernel) (by exact ev_lk_st1_self) ?_
                    refine ev_r_bipush (pc := 224) (k := 124) (by decide +kernel) (by decide +kernel) ?_
                    refine ev_r_icmp (pc := 226) (q := .ne) (o := 15) (t := 241) (c := x2 ≠ 124) (by decide +kernel) (ev_k_ne hx2 (by decide)) (by decide +kernel) ?_ ?_
                    · intro c15
                      refine ev_r_aload_n (pc := 241) (k := 0) (v := .ref 621) trivial (by decide +kernel) (by exact (ev_lk_st1 (by rfl) (by decide) rfl)) ?_
                      refine ev_r_iconst (pc := 242) (k := 1) (by decide +kernel) ?_
                      refine ev_r_virt (pc := 243) (y := 415) (mi := 234) (na := 1) (k := 621) (as := [.int (Int32.ofInt 1)]) (rest := []) (encc := ev_oU) (Q := ev_PU) (fun x S1 h => jt_234 d (by omega) Q 1 (by decide) s1 x S1 h) (by exact ev_ob_621) (by decide +kernel) (by decide +kernel) (by decide +kernel) (by decide +kernel) rfl (by (try simp only [ev_sum, ev_nv_cat]); first | done | rfl) ?_
                      intro _ s16 _
                      show ev_w _ _ _ _ _ [] _ _ _ _
                      refine ev_r_iload_n (pc := 246) (k := 1) (v := Int32.ofInt x2) (by decide +kernel) (by exact ev_lk_st1_self) ?_
                      refine ev_r_bipush (pc := 247) (k := 46) (by decide +kernel) (by decide +kernel) ?_
                      refine ev_r_icmp (pc := 249) (q := .ne) (o := 31) (t := 280) (c := x2 ≠ 46) (by decide +kernel) (ev_k_ne hx2 (by decide)) (by decide +kernel) ?_ ?_
                      · intro c17
                        refine ev_r_iload_n (pc := 280) (k := 1) (v := Int32.ofInt x2) (by decide +kernel) (by exact ev_lk_st1_self) ?_
                        refine ev_r_bipush (pc := 281) (k := 94) (by decide +kernel) (by decide +kernel) ?_
                        refine ev_r_jn (Q := fun K => ∀ (s21 : ev_St) (w18 : List (Nat × Value)), ev_lk w18 0 = some (.ref 621) → ev_lk w18 1 = some (.int (Int32.ofInt x2)) → ev_w none (ev_Mof 263) d 292 w18 [] s21 (K  s21) ev_eU ev_PU) ?_ ?_
                        · intro  s21 w18 e19 e20
                          refine ev_r_aload_n (pc := 292) (k := 0) (v := .ref 621) trivial (by decide +kernel) (by exact e19) ?_
                          refine ev_r_virt (pc := 293) (y := 356) (mi := 232) (na := 0) (k := 621) (as := []) (rest := []) (encc := ev_oI) (Q := ev_rng) (fun x S1 h => jt_232 d (by omega) Q   s21 x S1 h) (by exact ev_ob_621) (by decide +kernel) (by decide +kernel) (by decide +kernel) (by decide +kernel) rfl (by (try simp only [ev_sum, ev_nv_cat]); first | done | rfl) ?_
                          intro x23 s22 hx23
                          show ev_w _ _ _ _ _ [.int (Int32.ofInt x23)] _ _ _ _
                          refine ev_r_aload_n (pc := 296) (k := 0) (v := .ref 621) trivial (by decide +kernel) (by exact e19) ?_
                          refine ev_r_iload_n (pc := 297) (k := 1) (v := Int32.ofInt x2) (by decide +kernel) (by exact e20) ?_
                          refine ev_r_bipush (pc := 298) (k := 94) (by decide +kernel) (by decide +kernel) ?_
                          refine ev_r_jn (Q := fun K => ∀ (x25 : Int) (hx25 : ev_rng x25), ∀ (x24 : Int) (hx24 : ev_rng x24), ∀ (s28 : ev_St) (w26 : List (Nat × Value)), ev_lk w26 0 = some (.ref 621) → ev_w none (ev_Mof 263) d 308 w26 [.int (Int32.ofInt x25), .ref 621, .int (Int32.ofInt x24)] s28 (K x25 x24 s28) ev_eU ev_PU) ?_ ?_
                          · intro x25 hx25 x24 hx24 s28 w26 e27
                            refine ev_r_virt (pc := 308) (y := 378) (mi := 237) (na := 1) (k := 621) (as := [.int (Int32.ofInt x25)]) (rest := [.int (Int32.ofInt x24)]) (encc := ev_oI) (Q := ev_rng) (fun x S1 h => jt_237 d (by omega) Q x25 hx25 s28 x S1 h) (by exact ev_ob_621) (by decide +kernel) (by decide +kernel) (by decide +kernel) (by decide +kernel) rfl (by (try simp only [ev_sum, ev_nv_cat]); first | done | rfl) ?_
                            intro x30 s29 hx30
                            show ev_w _ _ _ _ _ [.int (Int32.ofInt x30), .int (Int32.ofInt x24)] _ _ _ _
                            refine ev_r_iadd (pc := 311) (by decide +kernel) ?_
                            intro x31 hx31
                            refine ev_r_istore_n (pc := 312) (k := 2) (by decide +kernel) (by decide +kernel) rfl ?_
                            refine ev_r_aload_n (pc := 313) (k := 0) (v := .ref 621) trivial (by decide +kernel) (by exact (ev_l1 e27 (by decide) (by decide))) ?_
                            refine ev_r_getC (pc := 314) (y := 31) (ci := 13) (f := 10) (fin := 1) (k' := 629) (by decide +kernel) (by decide +kernel) (by exact ev_ob_621) rfl rfl ?_
                            refine ev_r_iload_n (pc := 317) (k := 2) (v := Int32.ofInt x31) (by decide +kernel) (by exact ev_lk_st1_self) ?_
                            refine ev_r_aload_n (pc := 318) (k := 0) (v := .ref 621) trivial (by decide +kernel) (by exact (ev_l1 e27 (by decide) (by decide))) ?_
                            refine ev_r_getI (pc := 319) (y := 384) (ci := 13) (f := 40) (fin := 0) (by decide +kernel) (by decide +kernel) (by exact ev_ob_621) rfl ?_
                            intro x32 hx32
                            refine ev_r_iconst (pc := 322) (k := 4) (by decide +kernel) ?_
                            refine ev_r_iand (pc := 323) (by decide +kernel) ?_
                            intro x33 hx33
                            refine ev_r_iast (pc := 324) hx33 hx31 (by decide +kernel) (by exact ev_ab_629) ?_
                            intro s34
                            refine ev_r_goto (pc := 325) (o := 35) (t := 360) (by decide +kernel) (by decide +kernel) ?_
                            exact ev_r_return (pc := 360) (x := ()) trivial (by decide +kernel) (by decide +kernel) rfl
                          · intro K308 hK308
                            refine ev_r_icmp (pc := 300) (q := .ne) (o := 7) (t := 307) (c := x2 ≠ 94) (by decide +kernel) (ev_k_ne hx2 (by decide)) (by decide +kernel) ?_ ?_
                            · intro c35
                              refine ev_r_iconst (pc := 307) (k := 2) (by decide +kernel) ?_
                              exact hK308 2 (by decide) x23 hx23 s22 _ (by exact e19)
                            · intro c35
                              refine ev_r_iconst (pc := 303) (k := 1) (by decide +kernel) ?_
                              refine ev_r_goto (pc := 304) (o := 4) (t := 308) (by decide +kernel) (by decide +kernel) ?_
                              exact hK308 1 (by decide) x23 hx23 s22 _ (by exact e19)
                        · intro K292 hK292
                          refine ev_r_icmp (pc := 283) (q := .eq) (o := 9) (t := 292) (c := x2 = 94) (by decide +kernel) (ev_k_eq hx2 (by decide)) (by decide +kernel) ?_ ?_
                          · intro c36
                            exact hK292  s16 _ (by exact (ev_lk_st1 (by rfl) (by decide) rfl)) (by exact ev_lk_st1_self)
                          · intro c36
                            refine ev_r_iload_n (pc := 286) (k := 1) (v := Int32.ofInt x2) (by decide +kernel) (by exact ev_lk_st1_self) ?_
                            refine ev_r_bipush (pc := 287) (k := 36) (by decide +kernel) (by decide +kernel) ?_
                            refine ev_r_icmp (pc := 289) (q := .ne) (o := 39) (t := 328) (c := x2 ≠ 36) (by decide +kernel) (ev_k_ne hx2 (by decide)) (by decide +kernel) ?_ ?_
                            · intro c37
                              refine ev_r_aload_n (pc := 328) (k := 0) (v := .ref 621) trivial (by decide +kernel) (by exact (ev_lk_st1 (by rfl) (by decide) rfl)) ?_
                              refine ev_r_iload_n (pc := 329) (k := 1) (v := Int32.ofInt x2) (by decide +kernel) (by exact ev_lk_st1_self) ?_
                              refine ev_r_iload_n (pc := 330) (k := 1) (v := Int32.ofInt x2) (by decide +kernel) (by exact ev_lk_st1_self) ?_
                              refine ev_r_aload_n (pc := 331) (k := 0) (v := .ref 621) trivial (by decide +kernel) (by exact (ev_lk_st1 (by rfl) (by decide) rfl)) ?_
                              refine ev_r_getI (pc := 332) (y := 384) (ci := 13) (f := 40) (fin := 0) (by decide +kernel) (by decide +kernel) (by exact ev_ob_621) rfl ?_
                              intro x38 hx38
                              refine ev_r_iconst (pc := 335) (k := 1) (by decide +kernel) ?_
                              refine ev_r_iand (pc := 336) (by decide +kernel) ?_
                              intro x39 hx39
                              refine ev_r_jn (Q := fun K => ∀ (x42 : Int) (hx42 : ev_rng x42), ∀ (x41 : Int) (hx41 : ev_rng x41), ∀ (x40 : Int) (hx40 : ev_rng x40), ∀ (s45 : ev_St) (w43 : List (Nat × Value)), ev_lk w43 0 = some (.ref 621) → ev_w none (ev_Mof 263) d 345 w43 [.int (Int32.ofInt x42), .int (Int32.ofInt x41), .int (Int32.ofInt x40), .ref 621] s45 (K x42 x41 x40 s45) ev_eU ev_PU) ?_ ?_
                              · intro x42 hx42 x41 hx41 x40 hx40 s45 w43 e44
                                refine ev_r_virt (pc := 345) (y := 442) (mi := 245) (na := 3) (k := 621) (as := [.int (Int32.ofInt x40), .int (Int32.ofInt x41), .int (Int32.ofInt x42)]) (rest := []) (encc := ev_oU) (Q := ev_PU) (fun x S1 h => jt_245 d (by omega) Q x40 x41 x42 hx40 hx41 hx42 s45 x S1 h) (by exact ev_ob_621) (by decide +kernel) (by decide +kernel) (by decide +kernel) (by decide +kernel) rfl (by (try simp only [ev_sum, ev_nv_cat]); first | done | rfl) ?_
                                intro _ s46 _
                                show ev_w _ _ _ _ _ [] _ _ _ _
                                refine ev_r_aload_n (pc := 348) (k := 0) (v := .ref 621) trivial (by decide +kernel) (by exact e44) ?_
                                refine ev_r_aload_n (pc := 349) (k := 0) (v := .ref 621) trivial (by decide +kernel) (by exact e44) ?_
                                refine ev_r_getL (pc := 350) (y := 394) (ci := 13) (f := 41) (fin := 0) (by decide +kernel) (by decide +kernel) (by exact ev_ob_621) rfl ?_
                                intro y47
                                refine ev_r_aload_n (pc := 353) (k := 0) (v := .ref 621) trivial (by decide +kernel) (by exact e44) ?_
                                refine ev_r_getL (pc := 354) (y := 398) (ci := 13) (f := 42) (fin := 0) (by decide +kernel) (by decide +kernel) (by exact ev_ob_621) rfl ?_
                                intro y48
                                refine ev_r_virt (pc := 357) (y := 449) (mi := 238) (na := 2) (k := 621) (as := [.long y47, .long y48]) (rest := []) (encc := ev_oU) (Q := ev_PU) (fun x S1 h => jt_238 d (by omega) Q y47 y48  s46 x S1 h) (by exact ev_ob_621) (by decide +kernel) (by decide +kernel) (by decide +kernel) (by decide +kernel) rfl (by (try simp only [ev_sum, ev_nv_cat]); first | done | rfl) ?_
                                intro _ s49 _
                                show ev_w _ _ _ _ _ [] _ _ _ _
                                exact ev_r_return (pc := 360) (x := ()) trivial (by decide +kernel) (by decide +kernel) rfl
                              · intro K345 hK345
                                refine ev_r_if (pc := 337) (q := .le) (o := 7) (t := 344) (c := x39 ≤ 0) (by decide +kernel) (ev_k_le hx39 ev_rng0) (by decide +kernel) ?_ ?_
                                · intro c50
                                  refine ev_r_iconst (pc := 344) (k := 0) (by decide +kernel) ?_
                                  exact hK345 0 (by decide) x2 hx2 x2 hx2 s16 _ (by exact (ev_lk_st1 (by rfl) (by decide) rfl))
                                · intro c50
                                  refine ev_r_iconst (pc := 340) (k := 1) (by decide +kernel) ?_
                                  refine ev_r_goto (pc := 341) (o := 4) (t := 345) (by decide +kernel) (by decide +kernel) ?_
                                  exact hK345 1 (by decide) x2 hx2 x2 hx2 s16 _ (by exact (ev_lk_st1 (by rfl) (by decide) rfl))
                            · intro c37
                              exact hK292  s16 _ (by exact (ev_lk_st1 (by rfl) (by decide) rfl)) (by exact ev_lk_st1_self)
                      · intro c17
                        refine ev_r_aload_n (pc := 252) (k := 0) (v := .ref 621) trivial (by decide +kernel) (by exact (ev_lk_st1 (by rfl) (by decide) rfl)) ?_
                        refine ev_r_aload_n (pc := 253) (k := 0) (v := .ref 621) trivial (by decide +kernel) (by exact (ev_lk_st1 (by rfl) (by decide) rfl)) ?_
                        refine ev_r_getI (pc := 254) (y := 384) (ci := 13) (f := 40) (fin := 0) (by decide +kernel) (by decide +kernel) (by exact ev_ob_621) rfl ?_
                        intro x51 hx51
                        refine ev_r_iconst (pc := 257) (k := 2) (by decide +kernel) ?_
                        refine ev_r_iand (pc := 258) (by decide +kernel) ?_
                        intro x52 hx52
                        refine ev_r_jn (Q := fun K => ∀ (y53 : Int64), ∀ (s55 : ev_St) (w54 : List (Nat × Value)), ev_w none (ev_Mof 263) d 271 w54 [.long y53, .ref 621] s55 (K y53 s55) ev_eU ev_PU) ?_ ?_
                        · intro y53 s55 w54 
                          refine ev_r_ldc2 (pc := 271) (y := 428) (k := 4294967295) (by decide +kernel) (by decide +kernel) ?_
                          refine ev_r_virt (pc := 274) (y := 449) (mi := 238) (na := 2) (k := 621) (as := [.long y53, .long ((4294967295))]) (rest := []) (encc := ev_oU) (Q := ev_PU) (fun x S1 h => jt_238 d (by omega) Q y53 ((4294967295))  s55 x S1 h) (by exact ev_ob_621) (by decide +kernel) (by decide +kernel) (by decide +kernel) (by decide +kernel) rfl (by (try simp only [ev_sum, ev_nv_cat]); first | done | rfl) ?_
                          intro _ s56 _
                          show ev_w _ _ _ _ _ [] _ _ _ _
                          refine ev_r_goto (pc := 277) (o := 83) (t := 360) (by decide +kernel) (by decide +kernel) ?_
                          exact ev_r_return (pc := 360) (x := ()) trivial (by decide +kernel) (by decide +kernel) rfl
                        · intro K271 hK271
                          refine ev_r_if (pc := 259) (q := .le) (o := 9) (t := 268) (c := x52 ≤ 0) (by decide +kernel) (ev_k_le hx52 ev_rng0) (by decide +kernel) ?_ ?_
                          · intro c57
                            refine ev_r_ldc2 (pc := 268) (y := 493) (k := -2) (by decide +kernel) (by decide +kernel) ?_
                            exact hK271 ((-2)) s16 _ 
                          · intro c57
                            refine ev_r_ldc2 (pc := 262) (y := 407) (k := -1) (by decide +kernel) (by decide +kernel) ?_
                            refine ev_r_goto (pc := 265) (o := 6) (t := 271) (by decide +kernel) (by decide +kernel) ?_
                            exact hK271 ((-1)) s16 _ 
                    · intro c15
                      refine ev_r_aload_n (pc := 229) (k := 0) (v := .ref 621) trivial (by decide +kernel) (by exact (ev_lk_st1 (by rfl) (by decide) rfl)) ?_
                      refine ev_r_iconst (pc := 230) (k := 1) (by decide +kernel) ?_
                      refine ev_r_virt (pc := 231) (y := 415) (mi := 234) (na := 1) (k := 621) (as := [.int (Int32.ofInt 1)]) (rest := []) (encc := ev_oU) (Q := ev_PU) (fun x S1 h => jt_234 d (by omega) Q 1 (by decide) s1 x S1 h) (by exact ev_ob_621) (by decide +kernel) (by decide +kernel) (by decide +kernel) (by decide +kernel) rfl (by (try simp only [ev_sum, ev_nv_cat]); first | done | rfl) ?_
                      intro _ s58 _
                      show ev_w _ _ _ _ _ [] _ _ _ _
                      refine ev_r_aload_n (pc := 234) (k := 0) (v := .ref 621) trivial (by decide +kernel) (by exact (ev_lk_st1 (by rfl) (by decide) rfl)) ?_
                      refine ev_r_virt (pc := 235) (y := 490) (mi := 241) (na := 0) (k := 621) (as := []) (rest := []) (encc := ev_oU) (Q := ev_PU) (fun x S1 h => jt_241 d (by omega) Q   s58 x S1 h) (by exact ev_ob_621) (by decide +kernel) (by decide +kernel) (by decide +kernel) (by decide +kernel) rfl (by (try simp only [ev_sum, ev_nv_cat]); first | done | rfl) ?_
                      intro _ s59 _
                      show ev_w _ _ _ _ _ [] _ _ _ _
                      refine ev_r_goto (pc := 238) (o := 122) (t := 360) (by decide +kernel) (by decide +kernel) ?_
                      exact ev_r_return (pc := 360) (x := ()) trivial (by decide +kernel) (by decide +kernel) rfl
                  · intro c14
                    refine ev_r_aload_n (pc := 166) (k := 0) (v := .ref 621) trivial (by decide +kernel) (by exact (ev_lk_st1 (by rfl) (by decide) rfl)) ?_
                    refine ev_r_iconst (pc := 167) (k := 1) (by decide +kernel) ?_
                    refine ev_r_virt (pc := 168) (y := 415) (mi := 234) (na := 1) (k := 621) (as := [.int (Int32.ofInt 1)]) (rest := []) (encc := ev_oU) (Q := ev_PU) (fun x S1 h => jt_234 d (by omega) Q 1 (by decide) s1 x S1 h) (by exact ev_ob_621) (by decide +kernel) (by decide +kernel) (by decide +kernel) (by decide +kernel) rfl (by (try simp only [ev_sum, ev_nv_cat]); first | done | rfl) ?_
                    intro _ s60 _
                    show ev_w _ _ _ _ _ [] _ _ _ _
                    refine ev_r_aload_n (pc := 171) (k := 0) (v := .ref 621) trivial (by decide +kernel) (by exact (ev_lk_st1 (by rfl) (by decide) rfl)) ?_
                    refine ev_r_aload_n (pc := 172) (k := 0) (v := .ref 621) trivial (by decide +kernel) (by exact (ev_lk_st1 (by rfl) (by decide) rfl)) ?_
                    refine ev_r_getI (pc := 173) (y := 352) (ci := 13) (f := 25) (fin := 0) (by decide +kernel) (by decide +kernel) (by exact ev_ob_621) rfl ?_
                    intro x61 hx61
                    refine ev_r_jn (Q := fun K => ∀ (x62 : Int) (hx62 : ev_rng x62), ∀ (s65 : ev_St) (w63 : List (Nat × Value)), ev_lk w63 0 = some (.ref 621) → ev_w none (ev_Mof 263) d 206 w63 [.int (Int32.ofInt x62), .ref 621] s65 (K x62 s65) ev_eU ev_PU) ?_ ?_
                    · intro x62 hx62 s65 w63 e64
                      refine ev_r_chk ?_
                      intro c67
                      refine ev_r_putI (pc := 206) (y := 352) (ci := 13) (f := 25) hx62 (by decide +kernel) (by decide +kernel) (by exact ev_ob_621) rfl (ev_fit_bl c67) ?_
                      intro s66
                      refine ev_r_aload_n (pc := 209) (k := 0) (v := .ref 621) trivial (by decide +kernel) (by exact e64) ?_
                      refine ev_r_getI (pc := 210) (y := 352) (ci := 13) (f := 25) (fin := 0) (by decide +kernel) (by decide +kernel) (by exact ev_ob_621) rfl ?_
                      intro x68 hx68
                      refine ev_r_if (pc := 213) (q := .ne) (o := 147) (t := 360) (c := x68 ≠ 0) (by decide +kernel) (ev_k_ne hx68 ev_rng0) (by decide +kernel) ?_ ?_
                      · intro c69
                        exact ev_r_return (pc := 360) (x := ()) trivial (by decide +kernel) (by decide +kernel) rfl
                      · intro c69
                        refine ev_r_aload_n (pc := 216) (k := 0) (v := .ref 621) trivial (by decide +kernel) (by exact e64) ?_
                        refine ev_r_virt (pc := 217) (y := 487) (mi := 240) (na := 0) (k := 621) (as := []) (rest := []) (encc := ev_oU) (Q := ev_PU) (fun x S1 h => jt_240 d (by omega) Q   s66 x S1 h) (by exact ev_ob_621) (by decide +kernel) (by decide +kernel) (by decide +kernel) (by decide +kernel) rfl (by (try simp only [ev_sum, ev_nv_cat]); first | done | rfl) ?_
                        intro _ s70 _
                        show ev_w _ _ _ _ _ [] _ _ _ _
                        refine ev_r_goto (pc := 220) (o := 140) (t := 360) (by decide +kernel) (by decide +kernel) ?_
                        exact ev_r_return (pc := 360) (x := ()) trivial (by decide +kernel) (by decide +kernel) rfl
                    · intro K206 hK206
                      refine ev_r_jn (Q := fun K => ∀ (s73 : ev_St) (w71 : List (Nat × Value)), ev_lk w71 0 = some (.ref 621) → ev_w none (ev_Mof 263) d 201 w71 [.ref 621] s73 (K  s73) ev_eU ev_PU) ?_ ?_
                      · intro  s73 w71 e72
                        refine ev_r_iconst (pc := 201) (k := 1) (by decide +kernel) ?_
                        refine ev_r_goto (pc := 202) (o := 4) (t := 206) (by decide +kernel) (by decide +kernel) ?_
                        exact hK206 1 (by decide) s73 _ (by exact e72)
                      · intro K201 hK201
                        refine ev_r_if (pc := 176) (q := .ne) (o := 25) (t := 201) (c := x61 ≠ 0) (by decide +kernel) (ev_k_ne hx61 ev_rng0) (by decide +kernel) ?_ ?_
                        · intro c74
                          exact hK201  s60 _ (by exact (ev_lk_st1 (by rfl) (by decide) rfl))
                        · intro c74
                          refine ev_r_aload_n (pc := 179) (k := 0) (v := .ref 621) trivial (by decide +kernel) (by exact (ev_lk_st1 (by rfl) (by decide) rfl)) ?_
                          refine ev_r_getI (pc := 180) (y := 381) (ci := 13) (f := 31) (fin := 0) (by decide +kernel) (by decide +kernel) (by exact ev_ob_621) rfl ?_
                          intro x75 hx75
                          refine ev_r_iconst (pc := 183) (k := 2) (by decide +kernel) ?_
                          refine ev_r_icmp (pc := 184) (q := .lt) (o := 17) (t := 201) (c := x75 < 2) (by decide +kernel) (ev_k_lt hx75 (by decide)) (by decide +kernel) ?_ ?_
                          · intro c76
                            exact hK201  s60 _ (by exact (ev_lk_st1 (by rfl) (by decide) rfl))
                          · intro c76
                            refine ev_r_aload_n (pc := 187) (k := 0) (v := .ref 621) trivial (by decide +kernel) (by exact (ev_lk_st1 (by rfl) (by decide) rfl)) ?_
                            refine ev_r_getC (pc := 188) (y := 95) (ci := 13) (f := 36) (fin := 1) (k' := 650) (by decide +kernel) (by decide +kernel) (by exact ev_ob_621) rfl rfl ?_
                            refine ev_r_aload_n (pc := 191) (k := 0) (v := .ref 621) trivial (by decide +kernel) (by exact (ev_lk_st1 (by rfl) (by decide) rfl)) ?_
                            refine ev_r_getI (pc := 192) (y := 381) (ci := 13) (f := 31) (fin := 0) (by decide +kernel) (by decide +kernel) (by exact ev_ob_621) rfl ?_
                            intro x77 hx77
                            refine ev_r_iconst (pc := 195) (k := 1) (by decide +kernel) ?_
                            refine ev_r_isub (pc := 196) (by decide +kernel) ?_
                            intro x78 hx78
                            refine ev_r_bald (pc := 197) (ty := .boolean) (Or.inr rfl) hx78 (by decide +kernel) (by exact ev_ab_650) ?_
                            intro x79 hx79
                            refine ev_r_if (pc := 198) (q := .eq) (o := 7) (t := 205) (c := x79 = 0) (by decide +kernel) (ev_k_eq hx79 ev_rng0) (by decide +kernel) ?_ ?_
                            · intro c80
                              refine ev_r_iconst (pc := 205) (k := 0) (by decide +kernel) ?_
                              exact hK206 0 (by decide) s60 _ (by exact (ev_lk_st1 (by rfl) (by decide) rfl))
                            · intro c80
                              exact hK201  s60 _ (by exact (ev_lk_st1 (by rfl) (by decide) rfl))
                · intro c13
                  refine ev_r_aload_n (pc := 81) (k := 0) (v := .ref 621) trivial (by decide +kernel) (by exact (ev_lk_st1 (by rfl) (by decide) rfl)) ?_
                  refine ev_r_iconst (pc := 82) (k := 1) (by decide +kernel) ?_
                  refine ev_r_virt (pc := 83) (y := 409) (mi := 233) (na := 1) (k := 621) (as := [.int (Int32.ofInt 1)]) (rest := []) (encc := ev_oI) (Q := ev_rng) (fun x S1 h => jt_233 d (by omega) Q 1 (by decide) s1 x S1 h) (by exact ev_ob_621) (by decide +kernel) (by decide +kernel) (by decide +kernel) (by decide +kernel) rfl (by (try simp only [ev_sum, ev_nv_cat]); first | done | rfl) ?_
                  intro x82 s81 hx82
                  show ev_w _ _ _ _ _ [.int (Int32.ofInt x82)] _ _ _ _
                  refine ev_r_bipush (pc := 86) (k := 63) (by decide +kernel) (by decide +kernel) ?_
                  refine ev_r_jn (Q := fun K => ∀ (x83 : Int) (hx83 : ev_rng x83), ∀ (s86 : ev_St) (w84 : List (Nat × Value)), ev_lk w84 0 = some (.ref 621) → ev_w none (ev_Mof 263) d 96 w84 [.int (Int32.ofInt x83)] s86 (K x83 s86) ev_eU ev_PU) ?_ ?_
                  · intro x83 hx83 s86 w84 e85
                    refine ev_r_istore_n (pc := 96) (k := 2) (by decide +kernel) (by decide +kernel) rfl ?_
                    refine ev_r_aload_n (pc := 97) (k := 0) (v := .ref 621) trivial (by decide +kernel) (by exact (ev_l1 e85 (by decide) (by decide))) ?_
                    refine ev_r_iconst (pc := 98) (k := 1) (by decide +kernel) ?_
                    refine ev_r_virt (pc := 99) (y := 409) (mi := 233) (na := 1) (k := 621) (as := [.int (Int32.ofInt 1)]) (rest := []) (encc := ev_oI) (Q := ev_rng) (fun x S1 h => jt_233 d (by omega) Q 1 (by decide) s86 x S1 h) (by exact ev_ob_621) (by decide +kernel) (by decide +kernel) (by decide +kernel) (by decide +kernel) rfl (by (try simp only [ev_sum, ev_nv_cat]); first | done | rfl) ?_
                    intro x88 s87 hx88
                    show ev_w _ _ _ _ _ [.int (Int32.ofInt x88)] _ _ _ _
                    refine ev_r_bipush (pc := 102) (k := 42) (by decide +kernel) (by decide +kernel) ?_
                    refine ev_r_jn (Q := fun K => ∀ (x89 : Int) (hx89 : ev_rng x89), ∀ (x90 : Int) (hx90 : ev_rng x90), ∀ (s94 : ev_St) (w91 : List (Nat × Value)), ev_lk w91 0 = some (.ref 621) → ev_lk w91 2 = some (.int (Int32.ofInt x89)) → ev_w none (ev_Mof 263) d 112 w91 [.int (Int32.ofInt x90)] s94 (K x89 x90 s94) ev_eU ev_PU) ?_ ?_
                    · intro x89 hx89 x90 hx90 s94 w91 e92 e93
                      refine ev_r_istore_n (pc := 112) (k := 3) (by decide +kernel) (by decide +kernel) rfl ?_
                      refine ev_r_aload_n (pc := 113) (k := 0) (v := .ref 621) trivial (by decide +kernel) (by exact (ev_l1 e92 (by decide) (by decide))) ?_
                      refine ev_r_iload_n (pc := 114) (k := 2) (v := Int32.ofInt x89) (by decide +kernel) (by exact (ev_lk_st1 e93 (by decide) rfl)) ?_
                      refine ev_r_jn (Q := fun K => ∀ (x95 : Int) (hx95 : ev_rng x95), ∀ (x96 : Int) (hx96 : ev_rng x96), ∀ (s101 : ev_St) (w97 : List (Nat × Value)), ev_lk w97 0 = some (.ref 621) → ev_lk w97 2 = some (.int (Int32.ofInt x89)) → ev_lk w97 3 = some (.int (Int32.ofInt x95)) → ev_w none (ev_Mof 263) d 127 w97 [.int (Int32.ofInt x96), .ref 621] s101 (K x95 x96 s101) ev_eU ev_PU) ?_ ?_
                      · intro x95 hx95 x96 hx96 s101 w97 e98 e99 e100
                        refine ev_r_virt (pc := 127) (y := 415) (mi := 234) (na := 1) (k := 621) (as := [.int (Int32.ofInt x96)]) (rest := []) (encc := ev_oU) (Q := ev_PU) (fun x S1 h => jt_234 d (by omega) Q x96 hx96 s101 x S1 h) (by exact ev_ob_621) (by decide +kernel) (by decide +kernel) (by decide +kernel) (by decide +kernel) rfl (by (try simp only [ev_sum, ev_nv_cat]); first | done | rfl) ?_
                        intro _ s102 _
                        show ev_w _ _ _ _ _ [] _ _ _ _
                        refine ev_r_iload_n (pc := 130) (k := 2) (v := Int32.ofInt x89) (by decide +kernel) (by exact e99) ?_
                        refine ev_r_if (pc := 131) (q := .eq) (o := 10) (t := 141) (c := x89 = 0) (by decide +kernel) (ev_k_eq hx89 ev_rng0) (by decide +kernel) ?_ ?_
                        · intro c103
                          refine ev_r_iload_n (pc := 141) (k := 3) (v := Int32.ofInt x95) (by decide +kernel) (by exact e100) ?_
                          refine ev_r_if (pc := 142) (q := .eq) (o := 10) (t := 152) (c := x95 = 0) (by decide +kernel) (ev_k_eq hx95 ev_rng0) (by decide +kernel) ?_ ?_
                          · intro c104
                            refine ev_r_aload_n (pc := 152) (k := 0) (v := .ref 621) trivial (by decide +kernel) (by exact e98) ?_
                            refine ev_r_iconst (pc := 153) (k := -1) (by decide +kernel) ?_
                            refine ev_r_virt (pc := 154) (y := 463) (mi := 259) (na := 1) (k := 621) (as := [.int (Int32.ofInt ((-1)))]) (rest := []) (encc := ev_oU) (Q := ev_PU) (fun x S1 h => jt_259 d (by omega) Q ((-1)) (by decide) s102 x S1 h) (by exact ev_ob_621) (by decide +kernel) (by decide +kernel) (by decide +kernel) (by decide +kernel) rfl (by (try simp only [ev_sum, ev_nv_cat]); first | done | rfl) ?_
                            intro _ s105 _
                            show ev_w _ _ _ _ _ [] _ _ _ _
                            refine ev_r_goto (pc := 157) (o := 203) (t := 360) (by decide +kernel) (by decide +kernel) ?_
                            exact ev_r_return (pc := 360) (x := ()) trivial (by decide +kernel) (by decide +kernel) rfl
                          · intro c104
                            refine ev_r_aload_n (pc := 145) (k := 0) (v := .ref 621) trivial (by decide +kernel) (by exact e98) ?_
                            refine ev_r_virt (pc := 146) (y := 484) (mi := 262) (na := 0) (k := 621) (as := []) (rest := []) (encc := ev_oU) (Q := ev_PU) (fun x S1 h => jt_262 d (by omega) Q   s102 x S1 h) (by exact ev_ob_621) (by decide +kernel) (by decide +kernel) (by decide +kernel) (by decide +kernel) rfl (by (try simp only [ev_sum, ev_nv_cat]); first | done | rfl) ?_
                            intro _ s106 _
                            show ev_w _ _ _ _ _ [] _ _ _ _
                            refine ev_r_goto (pc := 149) (o := 8) (t := 157) (by decide +kernel) (by decide +kernel) ?_
                            refine ev_r_goto (pc := 157) (o := 203) (t := 360) (by decide +kernel) (by decide +kernel) ?_
                            exact ev_r_return (pc := 360) (x := ()) trivial (by decide +kernel) (by decide +kernel) rfl
                        · intro c103
                          refine ev_r_aload_n (pc := 134) (k := 0) (v := .ref 621) trivial (by decide +kernel) (by exact e98) ?_
                          refine ev_r_virt (pc := 135) (y := 481) (mi := 261) (na := 0) (k := 621) (as := []) (rest := []) (encc := ev_oU) (Q := ev_PU) (fun x S1 h => jt_261 d (by omega) Q   s102 x S1 h) (by exact ev_ob_621) (by decide +kernel) (by decide +kernel) (by decide +kernel) (by decide +kernel) rfl (by (try simp only [ev_sum, ev_nv_cat]); first | done | rfl) ?_
                          intro _ s107 _
                          show ev_w _ _ _ _ _ [] _ _ _ _
                          refine ev_r_goto (pc := 138) (o := 19) (t := 157) (by decide +kernel) (by decide +kernel) ?_
                          refine ev_r_goto (pc := 157) (o := 203) (t := 360) (by decide +kernel) (by decide +kernel) ?_
                          exact ev_r_return (pc := 360) (x := ()) trivial (by decide +kernel) (by decide +kernel) rfl
                      · intro K127 hK127
                        refine ev_r_jn (Q := fun K => ∀ (x108 : Int) (hx108 : ev_rng x108), ∀ (s113 : ev_St) (w109 : List (Nat × Value)), ev_lk w109 0 = some (.ref 621) → ev_lk w109 2 = some (.int (Int32.ofInt x89)) → ev_lk w109 3 = some (.int (Int32.ofInt x108)) → ev_w none (ev_Mof 263) d 122 w109 [.ref 621] s113 (K x108 s113) ev_eU ev_PU) ?_ ?_
                        · intro x108 hx108 s113 w109 e110 e111 e112
                          refine ev_r_iconst (pc := 122) (k := 2) (by decide +kernel) ?_
                          refine ev_r_goto (pc := 123) (o := 4) (t := 127) (by decide +kernel) (by decide +kernel) ?_
                          exact hK127 x108 hx108 2 (by decide) s113 _ (by exact e110) (by exact e111) (by exact e112)
                        · intro K122 hK122
                          refine ev_r_if (pc := 115) (q := .ne) (o := 7) (t := 122) (c := x89 ≠ 0) (by decide +kernel) (ev_k_ne hx89 ev_rng0) (by decide +kernel) ?_ ?_
                          · intro c114
                            exact hK122 x90 hx90 s94 _ (by exact (ev_l1 e92 (by decide) (by decide))) (by exact (ev_lk_st1 e93 (by decide) rfl)) (by exact ev_lk_st1_self)
                          · intro c114
                            refine ev_r_iload_n (pc := 118) (k := 3) (v := Int32.ofInt x90) (by decide +kernel) (by exact ev_lk_st1_self) ?_
                            refine ev_r_if (pc := 119) (q := .eq) (o := 7) (t := 126) (c := x90 = 0) (by decide +kernel) (ev_k_eq hx90 ev_rng0) (by decide +kernel) ?_ ?_
                            · intro c115
                              refine ev_r_iconst (pc := 126) (k := 1) (by decide +kernel) ?_
                              exact hK127 x90 hx90 1 (by decide) s94 _ (by exact (ev_l1 e92 (by decide) (by decide))) (by exact (ev_lk_st1 e93 (by decide) rfl)) (by exact ev_lk_st1_self)
                            · intro c115
                              exact hK122 x90 hx90 s94 _ (by exact (ev_l1 e92 (by decide) (by decide))) (by exact (ev_lk_st1 e93 (by decide) rfl)) (by exact ev_lk_st1_self)
                    · intro K112 hK112
                      refine ev_r_icmp (pc := 104) (q := .ne) (o := 7) (t := 111) (c := x88 ≠ 42) (by decide +kernel) (ev_k_ne hx88 (by decide)) (by decide +kernel) ?_ ?_
                      · intro c116
                        refine ev_r_iconst (pc := 111) (k := 0) (by decide +kernel) ?_
                        exact hK112 x83 hx83 0 (by decide) s87 _ (by exact (ev_l1 e85 (by decide) (by decide))) (by exact ev_lk_st1_self)
                      · intro c116
                        refine ev_r_iconst (pc := 107) (k := 1) (by decide +kernel) ?_
                        refine ev_r_goto (pc := 108) (o := 4) (t := 112) (by decide +kernel) (by decide +kernel) ?_
                        exact hK112 x83 hx83 1 (by decide) s87 _ (by exact (ev_l1 e85 (by decide) (by decide))) (by exact ev_lk_st1_self)
                  · intro K96 hK96
                    refine ev_r_icmp (pc := 88) (q := .ne) (o := 7) (t := 95) (c := x82 ≠ 63) (by decide +kernel) (ev_k_ne hx82 (by decide)) (by decide +kernel) ?_ ?_
                    · intro c117
                      refine ev_r_iconst (pc := 95) (k := 0) (by decide +kernel) ?_
                      exact hK96 0 (by decide) s81 _ (by exact (ev_lk_st1 (by rfl) (by decide) rfl))
                    · intro c117
                      refine ev_r_iconst (pc := 91) (k := 1) (by decide +kernel) ?_
                      refine ev_r_goto (pc := 92) (o := 4) (t := 96) (by decide +kernel) (by decide +kernel) ?_
                      exact hK96 1 (by decide) s81 _ (by exact (ev_lk_st1 (by rfl) (by decide) rfl))
              · intro c12
                refine ev_r_aload_n (pc := 56) (k := 0) (v := .ref 621) trivial (by decide +kernel) (by exact (ev_lk_st1 (by rfl) (by decide) rfl)) ?_
                refine ev_r_virt (pc := 57) (y := 478) (mi := 253) (na := 0) (k := 621) (as := []) (rest := []) (encc := ev_oU) (Q := ev_PU) (fun x S1 h => jt_253 d (by omega) Q   s1 x S1 h) (by exact ev_ob_621) (by decide +kernel) (by decide +kernel) (by decide +kernel) (by decide +kernel) rfl (by (try simp only [ev_sum, ev_nv_cat]); first | done | rfl) ?_
                intro _ s118 _
                show ev_w _ _ _ _ _ [] _ _ _ _
                refine ev_r_aload_n (pc := 60) (k := 0) (v := .ref 621) trivial (by decide +kernel) (by exact (ev_lk_st1 (by rfl) (by decide) rfl)) ?_
                refine ev_r_aload_n (pc := 61) (k := 0) (v := .ref 621) trivial (by decide +kernel) (by exact (ev_lk_st1 (by rfl) (by decide) rfl)) ?_
                refine ev_r_getL (pc := 62) (y := 394) (ci := 13) (f := 41) (fin := 0) (by decide +kernel) (by decide +kernel) (by exact ev_ob_621) rfl ?_
                intro y119
                refine ev_r_aload_n (pc := 65) (k := 0) (v := .ref 621) trivial (by decide +kernel) (by exact (ev_lk_st1 (by rfl) (by decide) rfl)) ?_
                refine ev_r_getL (pc := 66) (y := 398) (ci := 13) (f := 42) (fin := 0) (by decide +kernel) (by decide +kernel) (by exact ev_ob_621) rfl ?_
                intro y120
                refine ev_r_virt (pc := 69) (y := 449) (mi := 238) (na := 2) (k := 621) (as := [.long y119, .long y120]) (rest := []) (encc := ev_oU) (Q := ev_PU) (fun x S1 h => jt_238 d (by omega) Q y119 y120  s118 x S1 h) (by exact ev_ob_621) (by decide +kernel) (by decide +kernel) (by decide +kernel) (by decide +kernel) rfl (by (try simp only [ev_sum, ev_nv_cat]); first | done | rfl) ?_
                intro _ s121 _
                show ev_w _ _ _ _ _ [] _ _ _ _
                refine ev_r_goto (pc := 72) (o := 288) (t := 360) (by decide +kernel) (by decide +kernel) ?_
                exact ev_r_return (pc := 360) (x := ()) trivial (by decide +kernel) (by decide +kernel) rfl
            · intro c11
              refine ev_r_aload_n (pc := 43) (k := 0) (v := .ref 621) trivial (by decide +kernel) (by exact (ev_lk_st1 (by rfl) (by decide) rfl)) ?_
              refine ev_r_virt (pc := 44) (y := 475) (mi := 256) (na := 0) (k := 621) (as := []) (rest := []) (encc := ev_oU) (Q := ev_PU) (fun x S1 h => jt_256 d (by omega) Q   s1 x S1 h) (by exact ev_ob_621) (by decide +kernel) (by decide +kernel) (by decide +kernel) (by decide +kernel) rfl (by (try simp only [ev_sum, ev_nv_cat]); first | done | rfl) ?_
              intro _ s122 _
              show ev_w _ _ _ _ _ [] _ _ _ _
              refine ev_r_goto (pc := 47) (o := 313) (t := 360) (by decide +kernel) (by decide +kernel) ?_
              exact ev_r_return (pc := 360) (x := ()) trivial (by decide +kernel) (by decide +kernel) rfl
          · intro c10
            exact hK30  s1 _ (by exact (ev_lk_st1 (by rfl) (by decide) rfl))
def jb_264_5 (Q : Nat)   (K5 : Int → ev_St → Option ((Unit) × ev_St)) (x3 : Int) (s7 : ev_St) : Option ((Unit) × ev_St) := ev_bd (jm_232 Q  s7) fun x9 s8 => ev_if ((0 : Int) ≤ 12 ∧ 12 < (ev_aln 635 : Int)) (ev_b (s8.1 635 (Int.toNat 12)) fun x10 => ev_ck (x9 + x10) fun x11 => if x11 ≤ x3 then (some ((), s8)) else (ev_if ((0 : Int) ≤ x3 ∧ x3 < (ev_aln 625 : Int)) (ev_b (s8.1 625 (Int.toNat x3)) fun x13 => ev_jn (fun  (s17 : ev_St) => ev_if ((0 : Int) ≤ x3 ∧ x3 < (ev_aln 625 : Int)) (ev_b (s17.1 625 (Int.toNat x3)) fun x18 => ev_jn (fun (x19 : Int) (s23 : ev_St) => ev_b (s23.1 621 25) fun x24 => ev_jn (fun (x25 : Int) (s29 : ev_St) => ev_if (ev_bl x25) (ev_b (ev_pI s29 621 25 x25) fun s30 => ev_ck (x3 + 1) fun x32 => K5 x32 s30)) fun K159 => ev_jn (fun  (s36 : ev_St) => K159 1 s36) fun K154 => if x24 ≠ 0 then (K154  s23) else (ev_jn (fun  (s41 : ev_St) => K159 0 s41) fun K158 => if x19 = 0 then (K158  s23) else (ev_if ((0 : Int) ≤ x3 ∧ x3 < (ev_aln 628 : Int)) (ev_b (s23.1 628 (Int.toNat x3)) fun x43 => ev_if ((0 : Int) ≤ 12 ∧ 12 < (ev_aln 636 : Int)) (ev_b (s23.1 636 (Int.toNat 12)) fun x44 => if x43 ≤ x44 then (K158  s23) else (K154  s23)))))) fun K125 => ev_jn (fun  (s49 : ev_St) => K125 1 s49) fun K120 => if x18 = 7 then (K120  s17) else (ev_if ((0 : Int) ≤ x3 ∧ x3 < (ev_aln 625 : Int)) (ev_b (s17.1 625 (Int.toNat x3)) fun x51 => if x51 = 13 then (K120  s17) else (ev_if ((0 : Int) ≤ x3 ∧ x3 < (ev_aln 625 : Int)) (ev_b (s17.1 625 (Int.toNat x3)) fun x53 => if x53 ≠ 14 then (K125 0 s17) else (K120  s17))))))) fun K87 => if x13 ≠ 7 then (K87  s8) else (ev_if ((0 : Int) ≤ x3 ∧ x3 < (ev_aln 628 : Int)) (ev_b (s8.1 628 (Int.toNat x3)) fun x56 => if 0 ≤ x56 then (K87  s8) else (ev_if ((0 : Int) ≤ x3 ∧ x3 < (ev_aln 628 : Int)) (ev_b (s8.1 628 (Int.toNat x3)) fun x58 => ev_ck (311 - x58) fun x59 => ev_if ((0 : Int) ≤ x59 ∧ x59 < (ev_aln 638 : Int)) (ev_b (s8.1 638 (Int.toNat x59)) fun x60 => ev_if ((0 : Int) ≤ x3 ∧ x3 < (ev_aln 628 : Int)) (ev_b (ev_pI s8 628 (Int.toNat x3) x60) fun s61 => ev_b (s61.1 621 25) fun x62 => ev_jn (fun (x63 : Int) (s67 : ev_St) => ev_if (ev_bl x63) (ev_b (ev_pI s67 621 25 x63) fun s68 => K87  s68)) fun K84 => ev_jn (fun  (s73 : ev_St) => K84 1 s73) fun K79 => if x62 ≠ 0 then (K79  s61) else (ev_if ((0 : Int) ≤ x3 ∧ x3 < (ev_aln 628 : Int)) (ev_b (s61.1 628 (Int.toNat x3)) fun x75 => if x75 ≠ 0 then (K84 0 s61) else (K79  s61))))))))))))
def jl_264_5 (Q : Nat)   : Nat → Int → ev_St → Option ((Unit) × ev_St)
  | 0 => fun _ _ => none
  | q + 1 => jb_264_5 Q   (jl_264_5 Q   q)
theorem jbt_264_5 (d : Nat) (hd : 2 ≤ d + 1) (Q : Nat)     (K5 : Int → ev_St → Option ((Unit) × ev_St)) (hK5 : ∀ (x3 : Int) (hx3 : ev_rng x3), ∀ (s7 : ev_St) (w4 : List (Nat × Value)), ev_lk w4 0 = some (.ref 621) → ev_lk w4 1 = some (.int (Int32.ofInt x3)) → ev_w none (ev_Mof 264) d 5 w4 [] s7 (K5 x3 s7) ev_eU ev_PU) : ∀ (x3 : Int) (hx3 : ev_rng x3), ∀ (s7 : ev_St) (w4 : List (Nat × Value)), ev_lk w4 0 = some (.ref 621) → ev_lk w4 1 = some (.int (Int32.ofInt x3)) → ev_w none (ev_Mof 264) d 5 w4 [] s7 (jb_264_5 Q   K5 x3 s7) ev_eU ev_PU := by
  intro x3 hx3 s7 w4 e5 e6
  unfold jb_264_5
  refine ev_r_iload_n (pc := 5) (k := 1) (v := Int32.ofInt x3) (by decide +kernel) (by exact e6) ?_
  refine ev_r_aload_n (pc := 6) (k := 0) (v := .ref 621) trivial (by decide +kernel) (by exact e5) ?_
  refine ev_r_virt (pc := 7) (y := 356) (mi := 232) (na := 0) (k := 621) (as := []) (rest := [.int (Int32.ofInt x3)]) (encc := ev_oI) (Q := ev_rng) (fun x S1 h => jt_232 d (by omega) Q   s7 x S1 h) (by exact ev_ob_621) (by decide +kernel) (by decide +kernel) (by decide +kernel) (by decide +kernel) rfl (by (try simp only [ev_sum, ev_nv_cat]); first | done | rfl) ?_
  intro x9 s8 hx9
  show ev_w _ _ _ _ _ [.int (Int32.ofInt x9), .int (Int32.ofInt x3)] _ _ _ _
  refine ev_r_aload_n (pc := 10) (k := 0) (v := .ref 621) trivial (by decide +kernel) (by exact e5) ?_
  refine ev_r_getC (pc := 11) (y := 50) (ci := 13) (f := 16) (fin := 1) (k' := 635) (by decide +kernel) (by decide +kernel) (by exact ev_ob_621) rfl rfl ?_
  refine ev_r_bipush (pc := 14) (k := 12) (by decide +kernel) (by decide +kernel) ?_
  refine ev_r_iald (pc := 16) (by decide) (by decide +kernel) (by exact ev_ab_635) ?_
  intro x10 hx10
  refine ev_r_iadd (pc := 17) (by decide +kernel) ?_
  intro x11 hx11
  refine ev_r_icmp (pc := 18) (q := .ge) (o := 150) (t := 168) (c := x11 ≤ x3) (by decide +kernel) (ev_k_ge hx3 hx11) (by decide +kernel) ?_ ?_
  · intro c12
    exact ev_r_return (pc := 168) (x := ()) trivial (by decide +kernel) (by decide +kernel) rfl
  · intro c12
    refine ev_r_aload_n (pc := 21) (k := 0) (v := .ref 621) trivial (by decide +kernel) (by exact e5) ?_
    refine ev_r_getC (pc := 22) (y := 19) (ci := 13) (f := 6) (fin := 1) (k' := 625) (by decide +kernel) (by decide +kernel) (by exact ev_ob_621) rfl rfl ?_
    refine ev_r_iload_n (pc := 25) (k := 1) (v := Int32.ofInt x3) (by decide +kernel) (by exact e6) ?_
    refine ev_r_iald (pc := 26) hx3 (by decide +kernel) (by exact ev_ab_625) ?_
    intro x13 hx13
    refine ev_r_bipush (pc := 27) (k := 7) (by decide +kernel) (by decide +kernel) ?_
    refine ev_r_jn (Q := fun K => ∀ (s17 : ev_St) (w14 : List (Nat × Value)), ev_lk w14 0 = some (.ref 621) → ev_lk w14 1 = some (.int (Int32.ofInt x3)) → ev_w none (ev_Mof 264) d 87 w14 [] s17 (K  s17) ev_eU ev_PU) ?_ ?_
    · intro  s17 w14 e15 e16
      refine ev_r_aload_n (pc := 87) (k := 0) (v := .ref 621) trivial (by decide +kernel) (by exact e15) ?_
      refine ev_r_getC (pc := 88) (y := 19) (ci := 13) (f := 6) (fin := 1) (k' := 625) (by decide +kernel) (by decide +kernel) (by exact ev_ob_621) rfl rfl ?_
      refine ev_r_iload_n (pc := 91) (k := 1) (v := Int32.ofInt x3) (by decide +kernel) (by exact e16) ?_
      refine ev_r_iald (pc := 92) hx3 (by decide +kernel) (by exact ev_ab_625) ?_
      intro x18 hx18
      refine ev_r_bipush (pc := 93) (k := 7) (by decide +kernel) (by decide +kernel) ?_
      refine ev_r_jn (Q := fun K => ∀ (x19 : Int) (hx19 : ev_rng x19), ∀ (s23 : ev_St) (w20 : List (Nat × Value)), ev_lk w20 0 = some (.ref 621) → ev_lk w20 1 = some (.int (Int32.ofInt x3)) → ev_w none (ev_Mof 264) d 125 w20 [.int (Int32.ofInt x19)] s23 (K x19 s23) ev_eU ev_PU) ?_ ?_
      · intro x19 hx19 s23 w20 e21 e22
        refine ev_r_istore_n (pc := 125) (k := 2) (by decide +kernel) (by decide +kernel) rfl ?_
        refine ev_r_aload_n (pc := 126) (k := 0) (v := .ref 621) trivial (by decide +kernel) (by exact (ev_l1 e21 (by decide) (by decide))) ?_
        refine ev_r_aload_n (pc := 127) (k := 0) (v := .ref 621) trivial (by decide +kernel) (by exact (ev_l1 e21 (by decide) (by decide))) ?_
        refine ev_r_getI (pc := 128) (y := 352) (ci := 13) (f := 25) (fin := 0) (by decide +kernel) (by decide +kernel) (by exact ev_ob_621) rfl ?_
        intro x24 hx24
        refine ev_r_jn (Q := fun K => ∀ (x25 : Int) (hx25 : ev_rng x25), ∀ (s29 : ev_St) (w26 : List (Nat × Value)), ev_lk w26 0 = some (.ref 621) → ev_lk w26 1 = some (.int (Int32.ofInt x3)) → ev_w none (ev_Mof 264) d 159 w26 [.int (Int32.ofInt x25), .ref 621] s29 (K x25 s29) ev_eU ev_PU) ?_ ?_
        · intro x25 hx25 s29 w26 e27 e28
          refine ev_r_chk ?_
          intro c31
          refine ev_r_putI (pc := 159) (y := 352) (ci := 13) (f := 25) hx25 (by decide +kernel) (by decide +kernel) (by exact ev_ob_621) rfl (ev_fit_bl c31) ?_
          intro s30
          refine ev_r_iinc (pc := 162) (k := 1) (c := 1) (x := x3) (by decide +kernel) (by decide +kernel) (by exact e28) (fun _ => rfl) ?_
          intro x32 hx32
          refine ev_r_goto (pc := 165) (o := (-160)) (t := 5) (by decide +kernel) (by decide +kernel) ?_
          exact hK5 x32 hx32 s30 _ (by exact (ev_lk_st1 e27 (by decide) rfl)) (by exact ev_lk_st1_self)
        · intro K159 hK159
          refine ev_r_jn (Q := fun K => ∀ (s36 : ev_St) (w33 : List (Nat × Value)), ev_lk w33 0 = some (.ref 621) → ev_lk w33 1 = some (.int (Int32.ofInt x3)) → ev_w none (ev_Mof 264) d 154 w33 [.ref 621] s36 (K  s36) ev_eU ev_PU) ?_ ?_
          · intro  s36 w33 e34 e35
            refine ev_r_iconst (pc := 154) (k := 1) (by decide +kernel) ?_
            refine ev_r_goto (pc := 155) (o := 4) (t := 159) (by decide +kernel) (by decide +kernel) ?_
            exact hK159 1 (by decide) s36 _ (by exact e34) (by exact e35)
          · intro K154 hK154
            refine ev_r_if (pc := 131) (q := .ne) (o := 23) (t := 154) (c := x24 ≠ 0) (by decide +kernel) (ev_k_ne hx24 ev_rng0) (by decide +kernel) ?_ ?_
            · intro c37
              exact hK154  s23 _ (by exact (ev_l1 e21 (by decide) (by decide))) (by exact (ev_lk_st1 e22 (by decide) rfl))
            · intro c37
              refine ev_r_iload_n (pc := 134) (k := 2) (v := Int32.ofInt x19) (by decide +kernel) (by exact ev_lk_st1_self) ?_
              refine ev_r_jn (Q := fun K => ∀ (s41 : ev_St) (w38 : List (Nat × Value)), ev_lk w38 0 = some (.ref 621) → ev_lk w38 1 = some (.int (Int32.ofInt x3)) → ev_w none (ev_Mof 264) d 158 w38 [.ref 621] s41 (K  s41) ev_eU ev_PU) ?_ ?_
              · intro  s41 w38 e39 e40
                refine ev_r_iconst (pc := 158) (k := 0) (by decide +kernel) ?_
                exact hK159 0 (by decide) s41 _ (by exact e39) (by exact e40)
              · intro K158 hK158
                refine ev_r_if (pc := 135) (q := .eq) (o := 23) (t := 158) (c := x19 = 0) (by decide +kernel) (ev_k_eq hx19 ev_rng0) (by decide +kernel) ?_ ?_
                · intro c42
                  exact hK158  s23 _ (by exact (ev_l1 e21 (by decide) (by decide))) (by exact (ev_lk_st1 e22 (by decide) rfl))
                · intro c42
                  refine ev_r_aload_n (pc := 138) (k := 0) (v := .ref 621) trivial (by decide +kernel) (by exact (ev_l1 e21 (by decide) (by decide))) ?_
                  refine ev_r_getC (pc := 139) (y := 28) (ci := 13) (f := 9) (fin := 1) (k' := 628) (by decide +kernel) (by decide +kernel) (by exact ev_ob_621) rfl rfl ?_
                  refine ev_r_iload_n (pc := 142) (k := 1) (v := Int32.ofInt x3) (by decide +kernel) (by exact (ev_lk_st1 e22 (by decide) rfl)) ?_
                  refine ev_r_iald (pc := 143) hx3 (by decide +kernel) (by exact ev_ab_628) ?_
                  intro x43 hx43
                  refine ev_r_aload_n (pc := 144) (k := 0) (v := .ref 621) trivial (by decide +kernel) (by exact (ev_l1 e21 (by decide) (by decide))) ?_
                  refine ev_r_getC (pc := 145) (y := 53) (ci := 13) (f := 17) (fin := 1) (k' := 636) (by decide +kernel) (by decide +kernel) (by exact ev_ob_621) rfl rfl ?_
                  refine ev_r_bipush (pc := 148) (k := 12) (by decide +kernel) (by decide +kernel) ?_
                  refine ev_r_iald (pc := 150) (by decide) (by decide +kernel) (by exact ev_ab_636) ?_
                  intro x44 hx44
                  refine ev_r_icmp (pc := 151) (q := .le) (o := 7) (t := 158) (c := x43 ≤ x44) (by decide +kernel) (ev_k_le hx43 hx44) (by decide +kernel) ?_ ?_
                  · intro c45
                    exact hK158  s23 _ (by exact (ev_l1 e21 (by decide) (by decide))) (by exact (ev_lk_st1 e22 (by decide) rfl))
                  · intro c45
                    exact hK154  s23 _ (by exact (ev_l1 e21 (by decide) (by decide))) (by exact (ev_lk_st1 e22 (by decide) rfl))
      · intro K125 hK125
        refine ev_r_jn (Q := fun K => ∀ (s49 : ev_St) (w46 : List (Nat × Value)), ev_lk w46 0 = some (.ref 621) → ev_lk w46 1 = some (.int (Int32.ofInt x3)) → ev_w none (ev_Mof 264) d 120 w46 [] s49 (K  s49) ev_eU ev_PU) ?_ ?_
        · intro  s49 w46 e47 e48
          refine ev_r_iconst (pc := 120) (k := 1) (by decide +kernel) ?_
          refine ev_r_goto (pc := 121) (o := 4) (t := 125) (by decide +kernel) (by decide +kernel) ?_
          exact hK125 1 (by decide) s49 _ (by exact e47) (by exact e48)
        · intro K120 hK120
          refine ev_r_icmp (pc := 95) (q := .eq) (o := 25) (t := 120) (c := x18 = 7) (by decide +kernel) (ev_k_eq hx18 (by decide)) (by decide +kernel) ?_ ?_
          · intro c50
            exact hK120  s17 _ (by exact e15) (by exact e16)
          · intro c50
            refine ev_r_aload_n (pc := 98) (k := 0) (v := .ref 621) trivial (by decide +kernel) (by exact e15) ?_
            refine ev_r_getC (pc := 99) (y := 19) (ci := 13) (f := 6) (fin := 1) (k' := 625) (by decide +kernel) (by decide +kernel) (by exact ev_ob_621) rfl rfl ?_
            refine ev_r_iload_n (pc := 102) (k := 1) (v := Int32.ofInt x3) (by decide +kernel) (by exact e16) ?_
            refine ev_r_iald (pc := 103) hx3 (by decide +kernel) (by exact ev_ab_625) ?_
            intro x51 hx51
            refine ev_r_bipush (pc := 104) (k := 13) (by decide +kernel) (by decide +kernel) ?_
            refine ev_r_icmp (pc := 106) (q := .eq) (o := 14) (t := 120) (c := x51 = 13) (by decide +kernel) (ev_k_eq hx51 (by decide)) (by decide +kernel) ?_ ?_
            · intro c52
              exact hK120  s17 _ (by exact e15) (by exact e16)
            · intro c52
              refine ev_r_aload_n (pc := 109) (k := 0) (v := .ref 621) trivial (by decide +kernel) (by exact e15) ?_
              refine ev_r_getC (pc := 110) (y := 19) (ci := 13) (f := 6) (fin := 1) (k' := 625) (by decide +kernel) (by decide +kernel) (by exact ev_ob_621) rfl rfl ?_
              refine ev_r_iload_n (pc := 113) (k := 1) (v := Int32.ofInt x3) (by decide +kernel) (by exact e16) ?_
              refine ev_r_iald (pc := 114) hx3 (by decide +kernel) (by exact ev_ab_625) ?_
              intro x53 hx53
              refine ev_r_bipush (pc := 115) (k := 14) (by decide +kernel) (by decide +kernel) ?_
              refine ev_r_icmp (pc := 117) (q := .ne) (o := 7) (t := 124) (c := x53 ≠ 14) (by decide +kernel) (ev_k_ne hx53 (by decide)) (by decide +kernel) ?_ ?_
              · intro c54
                refine ev_r_iconst (pc := 124) (k := 0) (by decide +kernel) ?_
                exact hK125 0 (by decide) s17 _ (by exact e15) (by exact e16)
              · intro c54
                exact hK120  s17 _ (by exact e15) (by exact e16)
    · intro K87 hK87
      refine ev_r_icmp (pc := 29) (q := .ne) (o := 58) (t := 87) (c := x13 ≠ 7) (by decide +kernel) (ev_k_ne hx13 (by decide)) (by decide +kernel) ?_ ?_
      · intro c55
        exact hK87  s8 _ (by exact e5) (by exact e6)
      · intro c55
        refine ev_r_aload_n (pc := 32) (k := 0) (v := .ref 621) trivial (by decide +kernel) (by exact e5) ?_
        refine ev_r_getC (pc := 33) (y := 28) (ci := 13) (f := 9) (fin := 1) (k' := 628) (by decide +kernel) (by decide +kernel) (by exact ev_ob_621) rfl rfl ?_
        refine ev_r_iload_n (pc := 36) (k := 1) (v := Int32.ofInt x3) (by decide +kernel) (by exact e6) ?_
        refine ev_r_iald (pc := 37) hx3 (by decide +kernel) (by exact ev_ab_628) ?_
        intro x56 hx56
        refine ev_r_if (pc := 38) (q := .ge) (o := 49) (t := 87) (c := 0 ≤ x56) (by decide +kernel) (ev_k_ge hx56 ev_rng0) (by decide +kernel) ?_ ?_
        · intro c57
          exact hK87  s8 _ (by exact e5) (by exact e6)
        · intro c57
          refine ev_r_aload_n (pc := 41) (k := 0) (v := .ref 621) trivial (by decide +kernel) (by exact e5) ?_
          refine ev_r_getC (pc := 42) (y := 28) (ci := 13) (f := 9) (fin := 1) (k' := 628) (by decide +kernel) (by decide +kernel) (by exact ev_ob_621) rfl rfl ?_
          refine ev_r_iload_n (pc := 45) (k := 1) (v := Int32.ofInt x3) (by decide +kernel) (by exact e6) ?_
          refine ev_r_aload_n (pc := 46) (k := 0) (v := .ref 621) trivial (by decide +kernel) (by exact e5) ?_
          refine ev_r_getC (pc := 47) (y := 59) (ci := 13) (f := 19) (fin := 1) (k' := 638) (by decide +kernel) (by decide +kernel) (by exact ev_ob_621) rfl rfl ?_
          refine ev_r_sipush (pc := 50) (k := 311) (by decide +kernel) (by decide +kernel) ?_
          refine ev_r_aload_n (pc := 53) (k := 0) (v := .ref 621) trivial (by decide +kernel) (by exact e5) ?_
          refine ev_r_getC (pc := 54) (y := 28) (ci := 13) (f := 9) (fin := 1) (k' := 628) (by decide +kernel) (by decide +kernel) (by exact ev_ob_621) rfl rfl ?_
          refine ev_r_iload_n (pc := 57) (k := 1) (v := Int32.ofInt x3) (by decide +kernel) (by exact e6) ?_
          refine ev_r_iald (pc := 58) hx3 (by decide +kernel) (by exact ev_ab_628) ?_
          intro x58 hx58
          refine ev_r_isub (pc := 59) (by decide +kernel) ?_
          intro x59 hx59
          refine ev_r_iald (pc := 60) hx59 (by decide +kernel) (by exact ev_ab_638) ?_
          intro x60 hx60
          refine ev_r_iast (pc := 61) hx60 hx3 (by decide +kernel) (by exact ev_ab_628) ?_
          intro s61
          refine ev_r_aload_n (pc := 62) (k := 0) (v := .ref 621) trivial (by decide +kernel) (by exact e5) ?_
          refine ev_r_aload_n (pc := 63) (k := 0) (v := .ref 621) trivial (by decide +kernel) (by exact e5) ?_
          refine ev_r_getI (pc := 64) (y := 352) (ci := 13) (f := 25) (fin := 0) (by decide +kernel) (by decide +kernel) (by exact ev_ob_621) rfl ?_
          intro x62 hx62
          refine ev_r_jn (Q := fun K => ∀ (x63 : Int) (hx63 : ev_rng x63), ∀ (s67 : ev_St) (w64 : List (Nat × Value)), ev_lk w64 0 = some (.ref 621) → ev_lk w64 1 = some (.int (Int32.ofInt x3)) → ev_w none (ev_Mof 264) d 84 w64 [.int (Int32.ofInt x63), .ref 621] s67 (K x63 s67) ev_eU ev_PU) ?_ ?_
          · intro x63 hx63 s67 w64 e65 e66
            refine ev_r_chk ?_
            intro c69
            refine ev_r_putI (pc := 84) (y := 352) (ci := 13) (f := 25) hx63 (by decide +kernel) (by decide +kernel) (by exact ev_ob_621) rfl (ev_fit_bl c69) ?_
            intro s68
            exact hK87  s68 _ (by exact e65) (by exact e66)
          · intro K84 hK84
            refine ev_r_jn (Q := fun K => ∀ (s73 : ev_St) (w70 : List (Nat × Value)), ev_lk w70 0 = some (.ref 621) → ev_lk w70 1 = some (.int (Int32.ofInt x3)) → ev_w none (ev_Mof 264) d 79 w70 [.ref 621] s73 (K  s73) ev_eU ev_PU) ?_ ?_
            · intro  s73 w70 e71 e72
              refine ev_r_iconst (pc := 79) (k := 1) (by decide +kernel) ?_
              refine ev_r_goto (pc := 80) (o := 4) (t := 84) (by decide +kernel) (by decide +kernel) ?_
              exact hK84 1 (by decide) s73 _ (by exact e71) (by exact e72)
            · intro K79 hK79
              refine ev_r_if (pc := 67) (q := .ne) (o := 12) (t := 79) (c := x62 ≠ 0) (by decide +kernel) (ev_k_ne hx62 ev_rng0) (by decide +kernel) ?_ ?_
              · intro c74
                exact hK79  s61 _ (by exact e5) (by exact e6)
              · intro c74
                refine ev_r_aload_n (pc := 70) (k := 0) (v := .ref 621) trivial (by decide +kernel) (by exact e5) ?_
                refine ev_r_getC (pc := 71) (y := 28) (ci := 13) (f := 9) (fin := 1) (k' := 628) (by decide +kernel) (by decide +kernel) (by exact ev_ob_621) rfl rfl ?_
                refine ev_r_iload_n (pc := 74) (k := 1) (v := Int32.ofInt x3) (by decide +kernel) (by exact e6) ?_
                refine ev_r_iald (pc := 75) hx3 (by decide +kernel) (by exact ev_ab_628) ?_
                intro x75 hx75
                refine ev_r_if (pc := 76) (q := .ne) (o := 7) (t := 83) (c := x75 ≠ 0) (by decide +kernel) (ev_k_ne hx75 ev_rng0) (by decide +kernel) ?_ ?_
                · intro c76
                  refine ev_r_iconst (pc := 83) (k := 0) (by decide +kernel) ?_
                  exact hK84 0 (by decide) s61 _ (by exact e5) (by exact e6)
                · intro c76
                  exact hK79  s61 _ (by exact e5) (by exact e6)
theorem jlt_264_5 (d : Nat) (hd : 2 ≤ d + 1) (Q : Nat)     : ∀ q : Nat, ∀ (x3 : Int) (hx3 : ev_rng x3), ∀ (s7 : ev_St) (w4 : List (Nat × Value)), ev_lk w4 0 = some (.ref 621) → ev_lk w4 1 = some (.int (Int32.ofInt x3)) → ev_w none (ev_Mof 264) d 5 w4 [] s7 (jl_264_5 Q   q x3 s7) ev_eU ev_PU := by
  intro q
  induction q with
  | zero =>
    intro x3 hx3 s7 w4 e5 e6
    exact ev_w_none
  | succ q ih => exact jbt_264_5 d hd Q     _ ih
/-- MendBenchModel.checks()V -/
def jm_264 (Q : Nat)  (S : ev_St) : Option ((Unit) × ev_St) := ev_bd (jm_232 Q  S) fun x2 s1 => jl_264_5 Q   Q x2 s1
theorem jt_264 (d : Nat) (hd : 2 ≤ d) (Q : Nat)   (S : ev_St) (x : Unit) (S' : ev_St) (hJ : jm_264 Q  S = some (x, S')) : ev_Ref d 264 [.ref 621] S (ev_eU x) S' (ev_PU x) := by
  obtain ⟨d, rfl⟩ : ∃ e, d = e + 1 := ⟨d - 1, by omega⟩
  refine ev_ref_of (P := ev_PU) (lv := [(0, .ref 621)]) (by decide +kernel) (by (try simp only [ev_sum, ev_nv_cat]); first | done | rfl) (by (try simp only [lv_args, ev_nv_cat]); first | done | rfl) ?_ x S' hJ
  unfold jm_264
  refine ev_r_aload_n (pc := 0) (k := 0) (v := .ref 621) trivial (by decide +kernel) (by rfl) ?_
  refine ev_r_virt (pc := 1) (y := 356) (mi := 232) (na := 0) (k := 621) (as := []) (rest := []) (encc := ev_oI) (Q := ev_rng) (fun x S1 h => jt_232 d (by omega) Q   S x S1 h) (by exact ev_ob_621) (by decide +kernel) (by decide +kernel) (by decide +kernel) (by decide +kernel) rfl (by (try simp only [ev_sum, ev_nv_cat]); first | done | rfl) ?_
  intro x2 s1 hx2
  show ev_w _ _ _ _ _ [.int (Int32.ofInt x2)] _ _ _ _
  refine ev_r_istore_n (pc := 4) (k := 1) (by decide +kernel) (by decide +kernel) rfl ?_
  exact jlt_264_5 d hd Q     Q x2 hx2 s1 _ (by exact (ev_lk_st1 (by rfl) (by decide) rfl)) (by exact ev_lk_st1_self)
def jb_265_114 (Q : Nat)   (K114 : ev_St → Option ((Int) × ev_St))  (s24 : ev_St) : Option ((Int) × ev_St) := ev_b (s24.1 621 25) fun x25 => ev_jn (fun  (s28 : ev_St) => ev_b (s28.1 621 25) fun x29 => ev_jn (fun (x30 : Int) (s33 : ev_St) => ev_if (ev_bl x30) (ev_b (ev_pI s33 621 25 x30) fun s34 => ev_b (s34.1 621 25) fun x36 => ev_jn (fun  (s39 : ev_St) => ev_b (s39.1 621 25) fun x40 => if x40 = 0 then (ev_b (s39.1 621 27) fun x42 => some (x42, s39)) else (some ((-1), s39))) fun K235 => if x36 ≠ 0 then (K235  s34) else (ev_bd (jm_264 Q  s34) fun _ s44 => K235  s44))) fun K221 => ev_jn (fun  (s47 : ev_St) => K221 1 s47) fun K216 => if x29 ≠ 0 then (K216  s28) else (ev_b (s28.1 621 31) fun x49 => if x49 = 1 then (K221 0 s28) else (K216  s28))) fun K200 => if x25 ≠ 0 then (K200  s24) else (ev_b (s24.1 621 28) fun x52 => ev_jn (fun  (s55 : ev_St) => ev_bd (jm_233 Q 0 s55) fun x57 s56 => if x57 = (-1) then (ev_b (s56.1 621 31) fun x59 => ev_ck (x59 - 1) fun x60 => ev_if ((0 : Int) ≤ x60 ∧ x60 < (ev_aln 650 : Int)) (ev_b (s56.1 650 (Int.toNat x60)) fun x61 => ev_jn (fun (x62 : Int) (s65 : ev_St) => ev_if (ev_bl x62) (ev_b (ev_pI s65 621 25 x62) fun s66 => ev_b (s66.1 621 28) fun x68 => ev_ck (x68 - 1) fun x69 => ev_b (ev_pI s66 621 28 x69) fun s70 => ev_b (s70.1 621 25) fun x71 => if x71 ≠ 0 then (K114  s70) else (ev_bd (jm_240 Q  s70) fun _ s73 => K114  s73))) fun K173 => if x61 ≠ 0 then (K173 0 s56) else (K173 1 s56))) else (ev_bd (jm_263 Q  s56) fun _ s75 => K114  s75)) fun K137 => if 0 < x52 then (K137  s24) else (ev_bd (jm_233 Q 0 s24) fun x78 s77 => if x78 = (-1) then (K200  s77) else (K137  s77)))
def jl_265_114 (Q : Nat)   : Nat → ev_St → Option ((Int) × ev_St)
  | 0 => fun  _ => none
  | q + 1 => jb_265_114 Q   (jl_265_114 Q   q)
theorem jbt_265_114 (d : Nat) (hd : 8 ≤ d + 1) (Q : Nat)     (K114 : ev_St → Option ((Int) × ev_St)) (hK114 : ∀ (s24 : ev_St) (w22 : List (Nat × Value)), ev_lk w22 0 = some (.ref 621) → ev_w none (ev_Mof 265) d 114 w22 [] s24 (K114  s24) ev_eI ev_rng) : ∀ (s24 : ev_St) (w22 : List (Nat × Value)), ev_lk w22 0 = some (.ref 621) → ev_w none (ev_Mof 265) d 114 w22 [] s24 (jb_265_114 Q   K114  s24) ev_eI ev_rng := by
  intro  s24 w22 e23
  unfold jb_265_114
  refine ev_r_aload_n (pc := 114) (k := 0) (v := .ref 621) trivial (by decide +kernel) (by exact e23) ?_
  refine ev_r_getI (pc := 115) (y := 352) (ci := 13) (f := 25) (fin := 0) (by decide +kernel) (by decide +kernel) (by exact ev_ob_621) rfl ?_
  intro x25 hx25
  refine ev_r_jn (Q := fun K => ∀ (s28 : ev_St) (w26 : List (Nat × Value)), ev_lk w26 0 = some (.ref 621) → ev_w none (ev_Mof 265) d 200 w26 [] s28 (K  s28) ev_eI ev_rng) ?_ ?_
  · intro  s28 w26 e27
    refine ev_r_aload_n (pc := 200) (k := 0) (v := .ref 621) trivial (by decide +kernel) (by exact e27) ?_
    refine ev_r_aload_n (pc := 201) (k := 0) (v := .ref 621) trivial (by decide +kernel) (by exact e27) ?_
    refine ev_r_getI (pc := 202) (y := 352) (ci := 13) (f := 25) (fin := 0) (by decide +kernel) (by decide +kernel) (by exact ev_ob_621) rfl ?_
    intro x29 hx29
    refine ev_r_jn (Q := fun K => ∀ (x30 : Int) (hx30 : ev_rng x30), ∀ (s33 : ev_St) (w31 : List (Nat × Value)), ev_lk w31 0 = some (.ref 621) → ev_w none (ev_Mof 265) d 221 w31 [.int (Int32.ofInt x30), .ref 621] s33 (K x30 s33) ev_eI ev_rng) ?_ ?_
    · intro x30 hx30 s33 w31 e32
      refine ev_r_chk ?_
      intro c35
      refine ev_r_putI (pc := 221) (y := 352) (ci := 13) (f := 25) hx30 (by decide +kernel) (by decide +kernel) (by exact ev_ob_621) rfl (ev_fit_bl c35) ?_
      intro s34
      refine ev_r_aload_n (pc := 224) (k := 0) (v := .ref 621) trivial (by decide +kernel) (by exact e32) ?_
      refine ev_r_getI (pc := 225) (y := 352) (ci := 13) (f := 25) (fin := 0) (by decide +kernel) (by decide +kernel) (by exact ev_ob_621) rfl ?_
      intro x36 hx36
      refine ev_r_jn (Q := fun K => ∀ (s39 : ev_St) (w37 : List (Nat × Value)), ev_lk w37 0 = some (.ref 621) → ev_w none (ev_Mof 265) d 235 w37 [] s39 (K  s39) ev_eI ev_rng) ?_ ?_
      · intro  s39 w37 e38
        refine ev_r_aload_n (pc := 235) (k := 0) (v := .ref 621) trivial (by decide +kernel) (by exact e38) ?_
        refine ev_r_getI (pc := 236) (y := 352) (ci := 13) (f := 25) (fin := 0) (by decide +kernel) (by decide +kernel) (by exact ev_ob_621) rfl ?_
        intro x40 hx40
        refine ev_r_if (pc := 239) (q := .eq) (o := 7) (t := 246) (c := x40 = 0) (by decide +kernel) (ev_k_eq hx40 ev_rng0) (by decide +kernel) ?_ ?_
        · intro c41
          refine ev_r_aload_n (pc := 246) (k := 0) (v := .ref 621) trivial (by decide +kernel) (by exact e38) ?_
          refine ev_r_getI (pc := 247) (y := 360) (ci := 13) (f := 27) (fin := 0) (by decide +kernel) (by decide +kernel) (by exact ev_ob_621) rfl ?_
          intro x42 hx42
          exact ev_r_ireturn (pc := 250) (x := x42) (v := Int32.ofInt x42) (ty := .int) hx42 (by decide +kernel) (by decide +kernel) rfl rfl
        · intro c41
          refine ev_r_iconst (pc := 242) (k := -1) (by decide +kernel) ?_
          refine ev_r_goto (pc := 243) (o := 7) (t := 250) (by decide +kernel) (by decide +kernel) ?_
          exact ev_r_ireturn (pc := 250) (x := (-1)) (v := Int32.ofInt ((-1))) (ty := .int) (by decide) (by decide +kernel) (by decide +kernel) rfl rfl
      · intro K235 hK235
        refine ev_r_if (pc := 228) (q := .ne) (o := 7) (t := 235) (c := x36 ≠ 0) (by decide +kernel) (ev_k_ne hx36 ev_rng0) (by decide +kernel) ?_ ?_
        · intro c43
          exact hK235  s34 _ (by exact e32)
        · intro c43
          refine ev_r_aload_n (pc := 231) (k := 0) (v := .ref 621) trivial (by decide +kernel) (by exact e32) ?_
          refine ev_r_virt (pc := 232) (y := 498) (mi := 264) (na := 0) (k := 621) (as := []) (rest := []) (encc := ev_oU) (Q := ev_PU) (fun x S1 h => jt_264 d (by omega) Q   s34 x S1 h) (by exact ev_ob_621) (by decide +kernel) (by decide +kernel) (by decide +kernel) (by decide +kernel) rfl (by (try simp only [ev_sum, ev_nv_cat]); first | done | rfl) ?_
          intro _ s44 _
          show ev_w _ _ _ _ _ [] _ _ _ _
          exact hK235  s44 _ (by exact e32)
    · intro K221 hK221
      refine ev_r_jn (Q := fun K => ∀ (s47 : ev_St) (w45 : List (Nat × Value)), ev_lk w45 0 = some (.ref 621) → ev_w none (ev_Mof 265) d 216 w45 [.ref 621] s47 (K  s47) ev_eI ev_rng) ?_ ?_
      · intro  s47 w45 e46
        refine ev_r_iconst (pc := 216) (k := 1) (by decide +kernel) ?_
        refine ev_r_goto (pc := 217) (o := 4) (t := 221) (by decide +kernel) (by decide +kernel) ?_
        exact hK221 1 (by decide) s47 _ (by exact e46)
      · intro K216 hK216
        refine ev_r_if (pc := 205) (q := .ne) (o := 11) (t := 216) (c := x29 ≠ 0) (by decide +kernel) (ev_k_ne hx29 ev_rng0) (by decide +kernel) ?_ ?_
        · intro c48
          exact hK216  s28 _ (by exact e27)
        · intro c48
          refine ev_r_aload_n (pc := 208) (k := 0) (v := .ref 621) trivial (by decide +kernel) (by exact e27) ?_
          refine ev_r_getI (pc := 209) (y := 381) (ci := 13) (f := 31) (fin := 0) (by decide +kernel) (by decide +kernel) (by exact ev_ob_621) rfl ?_
          intro x49 hx49
          refine ev_r_iconst (pc := 212) (k := 1) (by decide +kernel) ?_
          refine ev_r_icmp (pc := 213) (q := .eq) (o := 7) (t := 220) (c := x49 = 1) (by decide +kernel) (ev_k_eq hx49 (by decide)) (by decide +kernel) ?_ ?_
          · intro c50
            refine ev_r_iconst (pc := 220) (k := 0) (by decide +kernel) ?_
            exact hK221 0 (by decide) s28 _ (by exact e27)
          · intro c50
            exact hK216  s28 _ (by exact e27)
  · intro K200 hK200
    refine ev_r_if (pc := 118) (q := .ne) (o := 82) (t := 200) (c := x25 ≠ 0) (by decide +kernel) (ev_k_ne hx25 ev_rng0) (by decide +kernel) ?_ ?_
    · intro c51
      exact hK200  s24 _ (by exact e23)
    · intro c51
      refine ev_r_aload_n (pc := 121) (k := 0) (v := .ref 621) trivial (by decide +kernel) (by exact e23) ?_
      refine ev_r_getI (pc := 122) (y := 349) (ci := 13) (f := 28) (fin := 0) (by decide +kernel) (by decide +kernel) (by exact ev_ob_621) rfl ?_
      intro x52 hx52
      refine ev_r_jn (Q := fun K => ∀ (s55 : ev_St) (w53 : List (Nat × Value)), ev_lk w53 0 = some (.ref 621) → ev_w none (ev_Mof 265) d 137 w53 [] s55 (K  s55) ev_eI ev_rng) ?_ ?_
      · intro  s55 w53 e54
        refine ev_r_aload_n (pc := 137) (k := 0) (v := .ref 621) trivial (by decide +kernel) (by exact e54) ?_
        refine ev_r_iconst (pc := 138) (k := 0) (by decide +kernel) ?_
        refine ev_r_virt (pc := 139) (y := 409) (mi := 233) (na := 1) (k := 621) (as := [.int (Int32.ofInt 0)]) (rest := []) (encc := ev_oI) (Q := ev_rng) (fun x S1 h => jt_233 d (by omega) Q 0 (by decide) s55 x S1 h) (by exact ev_ob_621) (by decide +kernel) (by decide +kernel) (by decide +kernel) (by decide +kernel) rfl (by (try simp only [ev_sum, ev_nv_cat]); first | done | rfl) ?_
        intro x57 s56 hx57
        show ev_w _ _ _ _ _ [.int (Int32.ofInt x57)] _ _ _ _
        refine ev_r_iconst (pc := 142) (k := -1) (by decide +kernel) ?_
        refine ev_r_icmp (pc := 143) (q := .eq) (o := 10) (t := 153) (c := x57 = (-1)) (by decide +kernel) (ev_k_eq hx57 (by decide)) (by decide +kernel) ?_ ?_
        · intro c58
          refine ev_r_aload_n (pc := 153) (k := 0) (v := .ref 621) trivial (by decide +kernel) (by exact e54) ?_
          refine ev_r_aload_n (pc := 154) (k := 0) (v := .ref 621) trivial (by decide +kernel) (by exact e54) ?_
          refine ev_r_getC (pc := 155) (y := 95) (ci := 13) (f := 36) (fin := 1) (k' := 650) (by decide +kernel) (by decide +kernel) (by exact ev_ob_621) rfl rfl ?_
          refine ev_r_aload_n (pc := 158) (k := 0) (v := .ref 621) trivial (by decide +kernel) (by exact e54) ?_
          refine ev_r_getI (pc := 159) (y := 381) (ci := 13) (f := 31) (fin := 0) (by decide +kernel) (by decide +kernel) (by exact ev_ob_621) rfl ?_
          intro x59 hx59
          refine ev_r_iconst (pc := 162) (k := 1) (by decide +kernel) ?_
          refine ev_r_isub (pc := 163) (by decide +kernel) ?_
          intro x60 hx60
          refine ev_r_bald (pc := 164) (ty := .boolean) (Or.inr rfl) hx60 (by decide +kernel) (by exact ev_ab_650) ?_
          intro x61 hx61
          refine ev_r_jn (Q := fun K => ∀ (x62 : Int) (hx62 : ev_rng x62), ∀ (s65 : ev_St) (w63 : List (Nat × Value)), ev_lk w63 0 = some (.ref 621) → ev_w none (ev_Mof 265) d 173 w63 [.int (Int32.ofInt x62), .ref 621] s65 (K x62 s65) ev_eI ev_rng) ?_ ?_
          · intro x62 hx62 s65 w63 e64
            refine ev_r_chk ?_
            intro c67
            refine ev_r_putI (pc := 173) (y := 352) (ci := 13) (f := 25) hx62 (by decide +kernel) (by decide +kernel) (by exact ev_ob_621) rfl (ev_fit_bl c67) ?_
            intro s66
            refine ev_r_aload_n (pc := 176) (k := 0) (v := .ref 621) trivial (by decide +kernel) (by exact e64) ?_
            refine ev_r_dup (pc := 177) rfl (by decide +kernel) ?_
            refine ev_r_getI (pc := 178) (y := 349) (ci := 13) (f := 28) (fin := 0) (by decide +kernel) (by decide +kernel) (by exact ev_ob_621) rfl ?_
            intro x68 hx68
            refine ev_r_iconst (pc := 181) (k := 1) (by decide +kernel) ?_
            refine ev_r_isub (pc := 182) (by decide +kernel) ?_
            intro x69 hx69
            refine ev_r_putI (pc := 183) (y := 349) (ci := 13) (f := 28) hx69 (by decide +kernel) (by decide +kernel) (by exact ev_ob_621) rfl rfl ?_
            intro s70
            refine ev_r_aload_n (pc := 186) (k := 0) (v := .ref 621) trivial (by decide +kernel) (by exact e64) ?_
            refine ev_r_getI (pc := 187) (y := 352) (ci := 13) (f := 25) (fin := 0) (by decide +kernel) (by decide +kernel) (by exact ev_ob_621) rfl ?_
            intro x71 hx71
            refine ev_r_if (pc := 190) (q := .ne) (o := (-76)) (t := 114) (c := x71 ≠ 0) (by decide +kernel) (ev_k_ne hx71 ev_rng0) (by decide +kernel) ?_ ?_
            · intro c72
              exact hK114  s70 _ (by exact e64)
            · intro c72
              refine ev_r_aload_n (pc := 193) (k := 0) (v := .ref 621) trivial (by decide +kernel) (by exact e64) ?_
              refine ev_r_virt (pc := 194) (y := 487) (mi := 240) (na := 0) (k := 621) (as := []) (rest := []) (encc := ev_oU) (Q := ev_PU) (fun x S1 h => jt_240 d (by omega) Q   s70 x S1 h) (by exact ev_ob_621) (by decide +kernel) (by decide +kernel) (by decide +kernel) (by decide +kernel) rfl (by (try simp only [ev_sum, ev_nv_cat]); first | done | rfl) ?_
              intro _ s73 _
              show ev_w _ _ _ _ _ [] _ _ _ _
              refine ev_r_goto (pc := 197) (o := (-83)) (t := 114) (by decide +kernel) (by decide +kernel) ?_
              exact hK114  s73 _ (by exact e64)
          · intro K173 hK173
            refine ev_r_if (pc := 165) (q := .ne) (o := 7) (t := 172) (c := x61 ≠ 0) (by decide +kernel) (ev_k_ne hx61 ev_rng0) (by decide +kernel) ?_ ?_
            · intro c74
              refine ev_r_iconst (pc := 172) (k := 0) (by decide +kernel) ?_
              exact hK173 0 (by decide) s56 _ (by exact e54)
            · intro c74
              refine ev_r_iconst (pc := 168) (k := 1) (by decide +kernel) ?_
              refine ev_r_goto (pc := 169) (o := 4) (t := 173) (by decide +kernel) (by decide +kernel) ?_
              exact hK173 1 (by decide) s56 _ (by exact e54)
        · intro c58
          refine ev_r_aload_n (pc := 146) (k := 0) (v := .ref 621) trivial (by decide +kernel) (by exact e54) ?_
          refine ev_r_virt (pc := 147) (y := 495) (mi := 263) (na := 0) (k := 621) (as := []) (rest := []) (encc := ev_oU) (Q := ev_PU) (fun x S1 h => jt_263 d (by omega) Q   s56 x S1 h) (by exact ev_ob_621) (by decide +kernel) (by decide +kernel) (by decide +kernel) (by decide +kernel) rfl (by (try simp only [ev_sum, ev_nv_cat]); first | done | rfl) ?_
          intro _ s75 _
          show ev_w _ _ _ _ _ [] _ _ _ _
          refine ev_r_goto (pc := 150) (o := (-36)) (t := 114) (by decide +kernel) (by decide +kernel) ?_
          exact hK114  s75 _ (by exact e54)
      · intro K137 hK137
        refine ev_r_if (pc := 125) (q := .gt) (o := 12) (t := 137) (c := 0 < x52) (by decide +kernel) (ev_k_gt hx52 ev_rng0) (by decide +kernel) ?_ ?_
        · intro c76
          exact hK137  s24 _ (by exact e23)
        · intro c76
          refine ev_r_aload_n (pc := 128) (k := 0) (v := .ref 621) trivial (by decide +kernel) (by exact e23) ?_
          refine ev_r_iconst (pc := 129) (k := 0) (by decide +kernel) ?_
          refine ev_r_virt (pc := 130) (y := 409) (mi := 233) (na := 1) (k := 621) (as := [.int (Int32.ofInt 0)]) (rest := []) (encc := ev_oI) (Q := ev_rng) (fun x S1 h => jt_233 d (by omega) Q 0 (by decide) s24 x S1 h) (by exact ev_ob_621) (by decide +kernel) (by decide +kernel) (by decide +kernel) (by decide +kernel) rfl (by (try simp only [ev_sum, ev_nv_cat]); first | done | rfl) ?_
          intro x78 s77 hx78
          show ev_w _ _ _ _ _ [.int (Int32.ofInt x78)] _ _ _ _
          refine ev_r_iconst (pc := 133) (k := -1) (by decide +kernel) ?_
          refine ev_r_icmp (pc := 134) (q := .eq) (o := 66) (t := 200) (c := x78 = (-1)) (by decide +kernel) (ev_k_eq hx78 (by decide)) (by decide +kernel) ?_ ?_
          · intro c79
            exact hK200  s77 _ (by exact e23)
          · intro c79
            exact hK137  s77 _ (by exact e23)
theorem jlt_265_114 (d : Nat) (hd : 8 ≤ d + 1) (Q : Nat)     : ∀ q : Nat, ∀ (s24 : ev_St) (w22 : List (Nat × Value)), ev_lk w22 0 = some (.ref 621) → ev_w none (ev_Mof 265) d 114 w22 [] s24 (jl_265_114 Q   q  s24) ev_eI ev_rng := by
  intro q
  induction q with
  | zero =>
    intro  s24 w22 e23
    exact ev_w_none
  | succ q ih => exact jbt_265_114 d hd Q     _ ih
def jb_265_33 (Q : Nat)   (K33 : Int → ev_St → Option ((Int) × ev_St)) (x6 : Int) (s10 : ev_St) : Option ((Int) × ev_St) := if 26 ≤ x6 then (ev_b (ev_pI s10 621 28 0) fun s12 => ev_if ((0 : Int) ≤ 0 ∧ 0 < (ev_aln 644 : Int)) (ev_b (ev_pI s12 644 (Int.toNat 0) ((-1))) fun s13 => ev_if ((0 : Int) ≤ 0 ∧ 0 < (ev_aln 645 : Int)) (ev_b (ev_pI s13 645 (Int.toNat 0) 0) fun s14 => ev_b (ev_pI s14 621 31 0) fun s15 => ev_b (ev_pI s15 621 40 0) fun s16 => ev_b (ev_pI s16 621 37 ((-1))) fun s17 => ev_b (ev_pI s17 621 38 ((-1))) fun s18 => ev_bd (jm_235 Q 9 s18) fun x20 s19 => ev_if ((0 : Int) ≤ 120 ∧ 120 < (ev_aln 637 : Int)) (ev_b (ev_pI s19 637 (Int.toNat 120) x20) fun s21 => ev_bd (jm_239 Q 0 0 s21) fun _ s80 => jl_265_114 Q   Q  s80)))) else (ev_ck (312 + x6) fun x81 => ev_if ((0 : Int) ≤ x81 ∧ x81 < (ev_aln 638 : Int)) (ev_b (ev_pI s10 638 (Int.toNat x81) 0) fun s82 => ev_ck (x6 + 1) fun x83 => K33 x83 s82))
def jl_265_33 (Q : Nat)   : Nat → Int → ev_St → Option ((Int) × ev_St)
  | 0 => fun _ _ => none
  | q + 1 => jb_265_33 Q   (jl_265_33 Q   q)
theorem jbt_265_33 (d : Nat) (hd : 8 ≤ d + 1) (Q : Nat)     (K33 : Int → ev_St → Option ((Int) × ev_St)) (hK33 : ∀ (x6 : Int) (hx6 : ev_rng x6), ∀ (s10 : ev_St) (w7 : List (Nat × Value)), ev_lk w7 0 = some (.ref 621) → ev_lk w7 2 = some (.int (Int32.ofInt x6)) → ev_w none (ev_Mof 265) d 33 w7 [] s10 (K33 x6 s10) ev_eI ev_rng) : ∀ (x6 : Int) (hx6 : ev_rng x6), ∀ (s10 : ev_St) (w7 : List (Nat × Value)), ev_lk w7 0 = some (.ref 621) → ev_lk w7 2 = some (.int (Int32.ofInt x6)) → ev_w none (ev_Mof 265) d 33 w7 [] s10 (jb_265_33 Q   K33 x6 s10) ev_eI ev_rng := by
  intro x6 hx6 s10 w7 e8 e9
  unfold jb_265_33
  refine ev_r_iload_n (pc := 33) (k := 2) (v := Int32.ofInt x6) (by decide +kernel) (by exact e9) ?_
  refine ev_r_bipush (pc := 34) (k := 26) (by decide +kernel) (by decide +kernel) ?_
  refine ev_r_icmp (pc := 36) (q := .ge) (o := 20) (t := 56) (c := 26 ≤ x6) (by decide +kernel) (ev_k_ge hx6 (by decide)) (by decide +kernel) ?_ ?_
  · intro c11
    refine ev_r_aload_n (pc := 56) (k := 0) (v := .ref 621) trivial (by decide +kernel) (by exact e8) ?_
    refine ev_r_iconst (pc := 57) (k := 0) (by decide +kernel) ?_
    refine ev_r_putI (pc := 58) (y := 349) (ci := 13) (f := 28) (by decide) (by decide +kernel) (by decide +kernel) (by exact ev_ob_621) rfl rfl ?_
    intro s12
    refine ev_r_aload_n (pc := 61) (k := 0) (v := .ref 621) trivial (by decide +kernel) (by exact e8) ?_
    refine ev_r_getC (pc := 62) (y := 77) (ci := 13) (f := 29) (fin := 1) (k' := 644) (by decide +kernel) (by decide +kernel) (by exact ev_ob_621) rfl rfl ?_
    refine ev_r_iconst (pc := 65) (k := 0) (by decide +kernel) ?_
    refine ev_r_iconst (pc := 66) (k := -1) (by decide +kernel) ?_
    refine ev_r_iast (pc := 67) (by decide) (by decide) (by decide +kernel) (by exact ev_ab_644) ?_
    intro s13
    refine ev_r_aload_n (pc := 68) (k := 0) (v := .ref 621) trivial (by decide +kernel) (by exact e8) ?_
    refine ev_r_getC (pc := 69) (y := 80) (ci := 13) (f := 30) (fin := 1) (k' := 645) (by decide +kernel) (by decide +kernel) (by exact ev_ob_621) rfl rfl ?_
    refine ev_r_iconst (pc := 72) (k := 0) (by decide +kernel) ?_
    refine ev_r_iconst (pc := 73) (k := 0) (by decide +kernel) ?_
    refine ev_r_iast (pc := 74) (by decide) (by decide) (by decide +kernel) (by exact ev_ab_645) ?_
    intro s14
    refine ev_r_aload_n (pc := 75) (k := 0) (v := .ref 621) trivial (by decide +kernel) (by exact e8) ?_
    refine ev_r_iconst (pc := 76) (k := 0) (by decide +kernel) ?_
    refine ev_r_putI (pc := 77) (y := 381) (ci := 13) (f := 31) (by decide) (by decide +kernel) (by decide +kernel) (by exact ev_ob_621) rfl rfl ?_
    intro s15
    refine ev_r_aload_n (pc := 80) (k := 0) (v := .ref 621) trivial (by decide +kernel) (by exact e8) ?_
    refine ev_r_iconst (pc := 81) (k := 0) (by decide +kernel) ?_
    refine ev_r_putI (pc := 82) (y := 384) (ci := 13) (f := 40) (by decide) (by decide +kernel) (by decide +kernel) (by exact ev_ob_621) rfl rfl ?_
    intro s16
    refine ev_r_aload_n (pc := 85) (k := 0) (v := .ref 621) trivial (by decide +kernel) (by exact e8) ?_
    refine ev_r_iconst (pc := 86) (k := -1) (by decide +kernel) ?_
    refine ev_r_putI (pc := 87) (y := 372) (ci := 13) (f := 37) (by decide) (by decide +kernel) (by decide +kernel) (by exact ev_ob_621) rfl rfl ?_
    intro s17
    refine ev_r_aload_n (pc := 90) (k := 0) (v := .ref 621) trivial (by decide +kernel) (by exact e8) ?_
    refine ev_r_iconst (pc := 91) (k := -1) (by decide +kernel) ?_
    refine ev_r_putI (pc := 92) (y := 369) (ci := 13) (f := 38) (by decide) (by decide +kernel) (by decide +kernel) (by exact ev_ob_621) rfl rfl ?_
    intro s18
    refine ev_r_aload_n (pc := 95) (k := 0) (v := .ref 621) trivial (by decide +kernel) (by exact e8) ?_
    refine ev_r_getC (pc := 96) (y := 56) (ci := 13) (f := 18) (fin := 1) (k' := 637) (by decide +kernel) (by decide +kernel) (by exact ev_ob_621) rfl rfl ?_
    refine ev_r_bipush (pc := 99) (k := 120) (by decide +kernel) (by decide +kernel) ?_
    refine ev_r_aload_n (pc := 101) (k := 0) (v := .ref 621) trivial (by decide +kernel) (by exact e8) ?_
    refine ev_r_bipush (pc := 102) (k := 9) (by decide +kernel) (by decide +kernel) ?_
    refine ev_r_virt (pc := 104) (y := 363) (mi := 235) (na := 1) (k := 621) (as := [.int (Int32.ofInt 9)]) (rest := [.int (Int32.ofInt 120), .ref 637]) (encc := ev_oI) (Q := ev_rng) (fun x S1 h => jt_235 d (by omega) Q 9 (by decide) s18 x S1 h) (by exact ev_ob_621) (by decide +kernel) (by decide +kernel) (by decide +kernel) (by decide +kernel) rfl (by (try simp only [ev_sum, ev_nv_cat]); first | done | rfl) ?_
    intro x20 s19 hx20
    show ev_w _ _ _ _ _ [.int (Int32.ofInt x20), .int (Int32.ofInt 120), .ref 637] _ _ _ _
    refine ev_r_iast (pc := 107) hx20 (by decide) (by decide +kernel) (by exact ev_ab_637) ?_
    intro s21
    refine ev_r_aload_n (pc := 108) (k := 0) (v := .ref 621) trivial (by decide +kernel) (by exact e8) ?_
    refine ev_r_iconst (pc := 109) (k := 0) (by decide +kernel) ?_
    refine ev_r_iconst (pc := 110) (k := 0) (by decide +kernel) ?_
    refine ev_r_virt (pc := 111) (y := 456) (mi := 239) (na := 2) (k := 621) (as := [.int (Int32.ofInt 0), .int (Int32.ofInt 0)]) (rest := []) (encc := ev_oU) (Q := ev_PU) (fun x S1 h => jt_239 d (by omega) Q 0 0 (by decide) (by decide) s21 x S1 h) (by exact ev_ob_621) (by decide +kernel) (by decide +kernel) (by decide +kernel) (by decide +kernel) rfl (by (try simp only [ev_sum, ev_nv_cat]); first | done | rfl) ?_
    intro _ s80 _
    show ev_w _ _ _ _ _ [] _ _ _ _
    exact jlt_265_114 d hd Q     Q  s80 _ (by exact e8)
  · intro c11
    refine ev_r_aload_n (pc := 39) (k := 0) (v := .ref 621) trivial (by decide +kernel) (by exact e8) ?_
    refine ev_r_getC (pc := 40) (y := 59) (ci := 13) (f := 19) (fin := 1) (k' := 638) (by decide +kernel) (by decide +kernel) (by exact ev_ob_621) rfl rfl ?_
    refine ev_r_sipush (pc := 43) (k := 312) (by decide +kernel) (by decide +kernel) ?_
    refine ev_r_iload_n (pc := 46) (k := 2) (v := Int32.ofInt x6) (by decide +kernel) (by exact e9) ?_
    refine ev_r_iadd (pc := 47) (by decide +kernel) ?_
    intro x81 hx81
    refine ev_r_iconst (pc := 48) (k := 0) (by decide +kernel) ?_
    refine ev_r_iast (pc := 49) (by decide) hx81 (by decide +kernel) (by exact ev_ab_638) ?_
    intro s82
    refine ev_r_iinc (pc := 50) (k := 2) (c := 1) (x := x6) (by decide +kernel) (by decide +kernel) (by exact e9) (fun _ => rfl) ?_
    intro x83 hx83
    refine ev_r_goto (pc := 53) (o := (-20)) (t := 33) (by decide +kernel) (by decide +kernel) ?_
    exact hK33 x83 hx83 s82 _ (by exact (ev_l1 e8 (by decide) (by decide))) (by exact ev_lk_st1_self)
theorem jlt_265_33 (d : Nat) (hd : 8 ≤ d + 1) (Q : Nat)     : ∀ q : Nat, ∀ (x6 : Int) (hx6 : ev_rng x6), ∀ (s10 : ev_St) (w7 : List (Nat × Value)), ev_lk w7 0 = some (.ref 621) → ev_lk w7 2 = some (.int (Int32.ofInt x6)) → ev_w none (ev_Mof 265) d 33 w7 [] s10 (jl_265_33 Q   q x6 s10) ev_eI ev_rng := by
  intro q
  induction q with
  | zero =>
    intro x6 hx6 s10 w7 e8 e9
    exact ev_w_none
  | succ q ih => exact jbt_265_33 d hd Q     _ ih
/-- MendBenchModel.readsAll(I)I -/
def jm_265 (Q : Nat) (a0 : Int) (S : ev_St) : Option ((Int) × ev_St) := ev_b (ev_pI S 621 26 a0) fun s1 => ev_b (ev_pI s1 621 25 0) fun s2 => ev_b (ev_pI s2 621 27 0) fun s3 => ev_if ((0 : Int) ≤ 12 ∧ 12 < (ev_aln 635 : Int)) (ev_b (ev_pI s3 635 (Int.toNat 12) 0) fun s4 => ev_if ((0 : Int) ≤ 12 ∧ 12 < (ev_aln 636 : Int)) (ev_b (ev_pI s4 636 (Int.toNat 12) 0) fun s5 => jl_265_33 Q   Q 0 s5))
theorem jt_265 (d : Nat) (hd : 8 ≤ d) (Q : Nat) (a0 : Int) (ha0 : ev_rng a0) (S : ev_St) (x : Int) (S' : ev_St) (hJ : jm_265 Q a0 S = some (x, S')) : ev_Ref d 265 [.ref 621, .int (Int32.ofInt a0)] S (ev_eI x) S' (ev_rng x) := by
  obtain ⟨d, rfl⟩ : ∃ e, d = e + 1 := ⟨d - 1, by omega⟩
  refine ev_ref_of (P := ev_rng) (lv := [(0, .ref 621), (1, .int (Int32.ofInt a0))]) (by decide +kernel) (by (try simp only [ev_sum, ev_nv_cat]); first | done | rfl) (by (try simp only [lv_args, ev_nv_cat]); first | done | rfl) ?_ x S' hJ
  unfold jm_265
  refine ev_r_aload_n (pc := 0) (k := 0) (v := .ref 621) trivial (by decide +kernel) (by rfl) ?_
  refine ev_r_iload_n (pc := 1) (k := 1) (v := Int32.ofInt a0) (by decide +kernel) (by rfl) ?_
  refine ev_r_putI (pc := 2) (y := 460) (ci := 13) (f := 26) ha0 (by decide +kernel) (by decide +kernel) (by exact ev_ob_621) rfl rfl ?_
  intro s1
  refine ev_r_aload_n (pc := 5) (k := 0) (v := .ref 621) trivial (by decide +kernel) (by rfl) ?_
  refine ev_r_iconst (pc := 6) (k := 0) (by decide +kernel) ?_
  refine ev_r_putI (pc := 7) (y := 352) (ci := 13) (f := 25) (by decide) (by decide +kernel) (by decide +kernel) (by exact ev_ob_621) rfl (ev_fit_bl (by decide : ev_bl 0)) ?_
  intro s2
  refine ev_r_aload_n (pc := 10) (k := 0) (v := .ref 621) trivial (by decide +kernel) (by rfl) ?_
  refine ev_r_iconst (pc := 11) (k := 0) (by decide +kernel) ?_
  refine ev_r_putI (pc := 12) (y := 360) (ci := 13) (f := 27) (by decide) (by decide +kernel) (by decide +kernel) (by exact ev_ob_621) rfl rfl ?_
  intro s3
  refine ev_r_aload_n (pc := 15) (k := 0) (v := .ref 621) trivial (by decide +kernel) (by rfl) ?_
  refine ev_r_getC (pc := 16) (y := 50) (ci := 13) (f := 16) (fin := 1) (k' := 635) (by decide +kernel) (by decide +kernel) (by exact ev_ob_621) rfl rfl ?_
  refine ev_r_bipush (pc := 19) (k := 12) (by decide +kernel) (by decide +kernel) ?_
  refine ev_r_iconst (pc := 21) (k := 0) (by decide +kernel) ?_
  refine ev_r_iast (pc := 22) (by decide) (by decide) (by decide +kernel) (by exact ev_ab_635) ?_
  intro s4
  refine ev_r_aload_n (pc := 23) (k := 0) (v := .ref 621) trivial (by decide +kernel) (by rfl) ?_
  refine ev_r_getC (pc := 24) (y := 53) (ci := 13) (f := 17) (fin := 1) (k' := 636) (by decide +kernel) (by decide +kernel) (by exact ev_ob_621) rfl rfl ?_
  refine ev_r_bipush (pc := 27) (k := 12) (by decide +kernel) (by decide +kernel) ?_
  refine ev_r_iconst (pc := 29) (k := 0) (by decide +kernel) ?_
  refine ev_r_iast (pc := 30) (by decide) (by decide) (by decide +kernel) (by exact ev_ab_636) ?_
  intro s5
  refine ev_r_iconst (pc := 31) (k := 0) (by decide +kernel) ?_
  refine ev_r_istore_n (pc := 32) (k := 2) (by decide +kernel) (by decide +kernel) rfl ?_
  exact jlt_265_33 d hd Q     Q 0 (by decide) s5 _ (by exact (ev_l1 (by rfl) (by decide) (by decide))) (by exact ev_lk_st1_self)
/-- MendBenchModel.capped(J)I -/
def jm_266 (Q : Nat) (a0 : Int64) (S : ev_St) : Option ((Int) × ev_St) := ev_b (ev_lcmp a0 ((1000000))) fun x1 => if x1 ≤ 0 then (ev_b (ev_l2i a0) fun x3 => some (x3, S)) else (some (1000000, S))
theorem jt_266 (d : Nat) (hd : 1 ≤ d) (Q : Nat) (a0 : Int64)  (S : ev_St) (x : Int) (S' : ev_St) (hJ : jm_266 Q a0 S = some (x, S')) : ev_Ref d 266 [.long a0] S (ev_eI x) S' (ev_rng x) := by
  obtain ⟨d, rfl⟩ : ∃ e, d = e + 1 := ⟨d - 1, by omega⟩
  refine ev_ref_of (P := ev_rng) (lv := [(0, .long a0)]) (by decide +kernel) (by (try simp only [ev_sum, ev_nv_cat]); first | done | rfl) (by (try simp only [lv_args, ev_nv_cat]); first | done | rfl) ?_ x S' hJ
  unfold jm_266
  refine ev_r_lload_n (pc := 0) (k := 0) (v := a0) (by decide +kernel) (by rfl) ?_
  refine ev_r_ldc2 (pc := 1) (y := 501) (k := 1000000) (by decide +kernel) (by decide +kernel) ?_
  refine ev_r_toI (pc := 4) (i := .lcmp) (len := 1) (pc' := 5) (by decide +kernel) rfl ?_
  intro x1 hx1
  refine ev_r_if (pc := 5) (q := .le) (o := 9) (t := 14) (c := x1 ≤ 0) (by decide +kernel) (ev_k_le hx1 ev_rng0) (by decide +kernel) ?_ ?_
  · intro c2
    refine ev_r_lload_n (pc := 14) (k := 0) (v := a0) (by decide +kernel) (by rfl) ?_
    refine ev_r_toI (pc := 15) (i := .l2i) (len := 1) (pc' := 16) (by decide +kernel) rfl ?_
    intro x3 hx3
    exact ev_r_ireturn (pc := 16) (x := x3) (v := Int32.ofInt x3) (ty := .int) hx3 (by decide +kernel) (by decide +kernel) rfl rfl
  · intro c2
    refine ev_r_ldcw (pc := 8) (y := 503) (k := 1000000) (by decide +kernel) (by decide +kernel) ?_
    refine ev_r_goto (pc := 11) (o := 5) (t := 16) (by decide +kernel) (by decide +kernel) ?_
    exact ev_r_ireturn (pc := 16) (x := 1000000) (v := Int32.ofInt 1000000) (ty := .int) (by decide) (by decide +kernel) (by decide +kernel) rfl rfl
/-- MendBenchModel.isPart(I)Z -/
def jm_267 (Q : Nat) (a0 : Int) (S : ev_St) : Option ((Int) × ev_St) := if a0 = 8 then (some (1, S)) else (if a0 = 9 then (some (1, S)) else (if a0 ≠ 10 then (some (0, S)) else (some (1, S))))
theorem jt_267 (d : Nat) (hd : 1 ≤ d) (Q : Nat) (a0 : Int) (ha0 : ev_rng a0) (S : ev_St) (x : Int) (S' : ev_St) (hJ : jm_267 Q a0 S = some (x, S')) : ev_Ref d 267 [.int (Int32.ofInt a0)] S (ev_eI x) S' (ev_bl x) := by
  obtain ⟨d, rfl⟩ : ∃ e, d = e + 1 := ⟨d - 1, by omega⟩
  refine ev_ref_of (P := ev_bl) (lv := [(0, .int (Int32.ofInt a0))]) (by decide +kernel) (by (try simp only [ev_sum, ev_nv_cat]); first | done | rfl) (by (try simp only [lv_args, ev_nv_cat]); first | done | rfl) ?_ x S' hJ
  unfold jm_267
  refine ev_r_iload_n (pc := 0) (k := 0) (v := Int32.ofInt a0) (by decide +kernel) (by rfl) ?_
  refine ev_r_bipush (pc := 1) (k := 8) (by decide +kernel) (by decide +kernel) ?_
  refine ev_r_icmp (pc := 3) (q := .eq) (o := 15) (t := 18) (c := a0 = 8) (by decide +kernel) (ev_k_eq ha0 (by decide)) (by decide +kernel) ?_ ?_
  · intro c1
    refine ev_r_iconst (pc := 18) (k := 1) (by decide +kernel) ?_
    refine ev_r_goto (pc := 19) (o := 4) (t := 23) (by decide +kernel) (by decide +kernel) ?_
    exact ev_r_ireturn (pc := 23) (x := 1) (v := Int32.ofInt 1) (ty := .boolean) (by decide : ev_bl 1) (by decide +kernel) (by decide +kernel) (ev_ret_bl (by decide : ev_bl 1)) rfl
  · intro c1
    refine ev_r_iload_n (pc := 6) (k := 0) (v := Int32.ofInt a0) (by decide +kernel) (by rfl) ?_
    refine ev_r_bipush (pc := 7) (k := 9) (by decide +kernel) (by decide +kernel) ?_
    refine ev_r_icmp (pc := 9) (q := .eq) (o := 9) (t := 18) (c := a0 = 9) (by decide +kernel) (ev_k_eq ha0 (by decide)) (by decide +kernel) ?_ ?_
    · intro c2
      refine ev_r_iconst (pc := 18) (k := 1) (by decide +kernel) ?_
      refine ev_r_goto (pc := 19) (o := 4) (t := 23) (by decide +kernel) (by decide +kernel) ?_
      exact ev_r_ireturn (pc := 23) (x := 1) (v := Int32.ofInt 1) (ty := .boolean) (by decide : ev_bl 1) (by decide +kernel) (by decide +kernel) (ev_ret_bl (by decide : ev_bl 1)) rfl
    · intro c2
      refine ev_r_iload_n (pc := 12) (k := 0) (v := Int32.ofInt a0) (by decide +kernel) (by rfl) ?_
      refine ev_r_bipush (pc := 13) (k := 10) (by decide +kernel) (by decide +kernel) ?_
      refine ev_r_icmp (pc := 15) (q := .ne) (o := 7) (t := 22) (c := a0 ≠ 10) (by decide +kernel) (ev_k_ne ha0 (by decide)) (by decide +kernel) ?_ ?_
      · intro c3
        refine ev_r_iconst (pc := 22) (k := 0) (by decide +kernel) ?_
        exact ev_r_ireturn (pc := 23) (x := 0) (v := Int32.ofInt 0) (ty := .boolean) (by decide : ev_bl 0) (by decide +kernel) (by decide +kernel) (ev_ret_bl (by decide : ev_bl 0)) rfl
      · intro c3
        refine ev_r_iconst (pc := 18) (k := 1) (by decide +kernel) ?_
        refine ev_r_goto (pc := 19) (o := 4) (t := 23) (by decide +kernel) (by decide +kernel) ?_
        exact ev_r_ireturn (pc := 23) (x := 1) (v := Int32.ofInt 1) (ty := .boolean) (by decide : ev_bl 1) (by decide +kernel) (by decide +kernel) (ev_ret_bl (by decide : ev_bl 1)) rfl
def jb_268_45 (Q : Nat) (x4 : Int) (x5 : Int) (K15 : Int → Int → ev_St → Option ((Unit) × ev_St)) (K45 : Int → Int → Int64 → Int64 → Int → Int → ev_St → Option ((Unit) × ev_St)) (x14 : Int) (x15 : Int) (y16 : Int64) (y17 : Int64) (x18 : Int) (x19 : Int) (s30 : ev_St) : Option ((Unit) × ev_St) := if x19 = (-1) then (ev_if ((0 : Int) ≤ x14 ∧ x14 < (ev_aln 625 : Int)) (ev_b (s30.1 625 (Int.toNat x14)) fun x32 => ev_bd (jm_267 Q x32 s30) fun x34 s33 => ev_jn (fun (x35 : Int) (s45 : ev_St) => ev_if ((0 : Int) ≤ x14 ∧ x14 < (ev_aln 625 : Int)) (ev_b (s45.1 625 (Int.toNat x14)) fun x46 => ev_jn (fun (x49 : Int) (x48 : Int) (r47 : Nat) (s57 : ev_St) => ev_if ((0 : Int) ≤ x48 ∧ x48 < (ev_aln r47 : Int)) (ev_b (ev_pI s57 r47 (Int.toNat x48) x49) fun s58 => ev_if ((0 : Int) ≤ x14 ∧ x14 < (ev_aln 625 : Int)) (ev_b (s58.1 625 (Int.toNat x14)) fun x59 => ev_jn (fun (y60 : Int64) (s66 : ev_St) => ev_bd (jm_266 Q y60 s66) fun x68 s67 => ev_if ((0 : Int) ≤ x14 ∧ x14 < (ev_aln 642 : Int)) (ev_b (ev_pI s67 642 (Int.toNat x14) x68) fun s69 => ev_if ((0 : Int) ≤ x14 ∧ x14 < (ev_aln 630 : Int)) (ev_b (s69.1 630 (Int.toNat x14)) fun x70 => ev_jn (fun (y71 : Int64) (x74 : Int) (x73 : Int) (r72 : Nat) (s81 : ev_St) => ev_if ((0 : Int) ≤ x73 ∧ x73 < (ev_aln r72 : Int)) (ev_b (ev_pI s81 r72 (Int.toNat x73) x74) fun s82 => ev_if ((0 : Int) ≤ x14 ∧ x14 < (ev_aln 630 : Int)) (ev_b (s82.1 630 (Int.toNat x14)) fun x83 => ev_jn (fun (x86 : Int) (x85 : Int) (r84 : Nat) (s91 : ev_St) => ev_if ((0 : Int) ≤ x85 ∧ x85 < (ev_aln r84 : Int)) (ev_b (ev_pI s91 r84 (Int.toNat x85) x86) fun s92 => ev_ck (x5 + (-1)) fun x93 => K15 x4 x93 s92)) fun K437 => if x83 ≠ (-1) then (ev_if ((0 : Int) ≤ x14 ∧ x14 < (ev_aln 632 : Int)) (ev_b (s82.1 632 (Int.toNat x14)) fun x95 => if x95 = (-1) then (ev_if ((0 : Int) ≤ x14 ∧ x14 < (ev_aln 631 : Int)) (ev_b (s82.1 631 (Int.toNat x14)) fun x97 => ev_b (ev_i2l x97) fun y98 => ev_b (y98 + (Int64.ofNat ((1 : Fin 2) : Nat))) fun y99 => ev_b (y71 * y99) fun y100 => ev_b (y100 + (2)) fun y101 => ev_bd (jm_266 Q y101 s82) fun x103 s102 => K437 x103 x14 643 s102)) else (ev_b (y71 + (Int64.ofNat ((1 : Fin 2) : Nat))) fun y104 => ev_if ((0 : Int) ≤ x14 ∧ x14 < (ev_aln 632 : Int)) (ev_b (s82.1 632 (Int.toNat x14)) fun x105 => ev_b (ev_i2l x105) fun y106 => ev_b (y104 * y106) fun y107 => ev_bd (jm_266 Q y107 s82) fun x109 s108 => K437 x109 x14 643 s108)))) else (ev_if ((0 : Int) ≤ x14 ∧ x14 < (ev_aln 642 : Int)) (ev_b (s82.1 642 (Int.toNat x14)) fun x110 => K437 x110 x14 643 s82))))) fun K359 => if x70 ≠ (-1) then (ev_if ((0 : Int) ≤ x14 ∧ x14 < (ev_aln 640 : Int)) (ev_b (s69.1 640 (Int.toNat x14)) fun x112 => ev_b (ev_i2l x112) fun y113 => ev_if ((0 : Int) ≤ x14 ∧ x14 < (ev_aln 631 : Int)) (ev_b (s69.1 631 (Int.toNat x14)) fun x114 => ev_b (ev_i2l x114) fun y115 => ev_b (y113 * y115) fun y116 => ev_bd (jm_266 Q y116 s69) fun x118 s117 => K359 y60 x118 x14 641 s117))) else (ev_if ((0 : Int) ≤ x14 ∧ x14 < (ev_aln 640 : Int)) (ev_b (s69.1 640 (Int.toNat x14)) fun x119 => K359 y60 x119 x14 641 s69))))) fun K298 => if x59 ≠ 18 then (ev_if ((0 : Int) ≤ x14 ∧ x14 < (ev_aln 625 : Int)) (ev_b (s58.1 625 (Int.toNat x14)) fun x121 => if 7 ≤ x121 then (ev_jn (fun (x125 : Int) (y124 : Int64) (y123 : Int64) (s131 : ev_St) => ev_b (ev_i2l x125) fun y132 => ev_b (y124 * y132) fun y133 => ev_b (y123 + y133) fun y134 => ev_if ((0 : Int) ≤ x14 ∧ x14 < (ev_aln 625 : Int)) (ev_b (s131.1 625 (Int.toNat x14)) fun x135 => ev_jn (fun (y137 : Int64) (y136 : Int64) (s143 : ev_St) => ev_b (y136 + y137) fun y144 => K298 y144 s143) fun K297 => if x135 ≠ 8 then (K297 ((Int64.ofNat ((0 : Fin 2) : Nat))) y134 s131) else (K297 ((2)) y134 s131))) fun K275 => if x18 ≤ 0 then (K275 0 ((2)) y17 s58) else (ev_ck (x18 - 1) fun x147 => K275 x147 ((2)) y17 s58)) else (K298 ((Int64.ofNat ((1 : Fin 2) : Nat))) s58))) else (K298 y17 s58)))) fun K223 => if x46 ≠ 18 then (ev_if ((0 : Int) ≤ x14 ∧ x14 < (ev_aln 625 : Int)) (ev_b (s45.1 625 (Int.toNat x14)) fun x149 => if x149 ≠ 0 then (if x35 = 0 then (K223 0 x14 640 s45) else (K223 x15 x14 640 s45)) else (K223 1 x14 640 s45))) else (ev_bd (jm_266 Q y16 s45) fun x153 s152 => K223 x153 x14 640 s152))) fun K170 => ev_jn (fun  (s163 : ev_St) => K170 1 s163) fun K165 => if x34 ≠ 0 then (K165  s33) else (ev_if ((0 : Int) ≤ x14 ∧ x14 < (ev_aln 625 : Int)) (ev_b (s33.1 625 (Int.toNat x14)) fun x165 => ev_jn (fun  (s175 : ev_St) => K170 0 s175) fun K169 => if x165 ≠ 13 then (K169  s33) else (if x18 ≤ 1 then (K169  s33) else (K165  s33)))))) else (ev_jn (fun (x178 : Int) (s188 : ev_St) => ev_ck (x4 + x19) fun x189 => ev_if ((0 : Int) ≤ x189 ∧ x189 < (ev_aln 641 : Int)) (ev_b (s188.1 641 (Int.toNat x189)) fun x190 => ev_b (ev_i2l x190) fun y191 => ev_b (y16 + y191) fun y192 => ev_ck (x4 + x19) fun x193 => ev_if ((0 : Int) ≤ x193 ∧ x193 < (ev_aln 643 : Int)) (ev_b (s188.1 643 (Int.toNat x193)) fun x194 => ev_b (ev_i2l x194) fun y195 => ev_b (y17 + y195) fun y196 => ev_ck (x18 + 1) fun x197 => ev_ck (x4 + x19) fun x198 => ev_if ((0 : Int) ≤ x198 ∧ x198 < (ev_aln 627 : Int)) (ev_b (s188.1 627 (Int.toNat x198)) fun x199 => K45 x14 x178 y192 y196 x197 x199 s188)))) fun K85 => ev_jn (fun  (s209 : ev_St) => ev_ck (x4 + x19) fun x210 => ev_if ((0 : Int) ≤ x210 ∧ x210 < (ev_aln 640 : Int)) (ev_b (s209.1 640 (Int.toNat x210)) fun x211 => K85 x211 s209)) fun K71 => if x15 = (-1) then (K71  s30) else (ev_ck (x4 + x19) fun x213 => ev_if ((0 : Int) ≤ x213 ∧ x213 < (ev_aln 640 : Int)) (ev_b (s30.1 640 (Int.toNat x213)) fun x214 => if x15 ≤ x214 then (K85 x15 s30) else (K71  s30))))
def jl_268_45 (Q : Nat) (x4 : Int) (x5 : Int) (K15 : Int → Int → ev_St → Option ((Unit) × ev_St)) : Nat → Int → Int → Int64 → Int64 → Int → Int → ev_St → Option ((Unit) × ev_St)
  | 0 => fun _ _ _ _ _ _ _ => none
  | q + 1 => jb_268_45 Q x4 x5 K15 (jl_268_45 Q x4 x5 K15 q)
theorem jbt_268_45 (d : Nat) (hd : 2 ≤ d + 1) (Q : Nat) (x4 : Int) (x5 : Int) (hx4 : ev_rng x4) (hx5 : ev_rng x5) (K15 : Int → Int → ev_St → Option ((Unit) × ev_St)) (hK15 : ∀ (x4 : Int) (hx4 : ev_rng x4), ∀ (x5 : Int) (hx5 : ev_rng x5), ∀ (s10 : ev_St) (w6 : List (Nat × Value)), ev_lk w6 0 = some (.ref 621) → ev_lk w6 2 = some (.int (Int32.ofInt x4)) → ev_lk w6 3 = some (.int (Int32.ofInt x5)) → ev_w none (ev_Mof 268) d 15 w6 [] s10 (K15 x4 x5 s10) ev_eU ev_PU) (K45 : Int → Int → Int64 → Int64 → Int → Int → ev_St → Option ((Unit) × ev_St)) (hK45 : ∀ (x14 : Int) (hx14 : ev_rng x14), ∀ (x15 : Int) (hx15 : ev_rng x15), ∀ (y16 : Int64), ∀ (y17 : Int64), ∀ (x18 : Int) (hx18 : ev_rng x18), ∀ (x19 : Int) (hx19 : ev_rng x19), ∀ (s30 : ev_St) (w20 : List (Nat × Value)), ev_lk w20 0 = some (.ref 621) → ev_lk w20 2 = some (.int (Int32.ofInt x4)) → ev_lk w20 3 = some (.int (Int32.ofInt x5)) → ev_lk w20 4 = some (.int (Int32.ofInt x14)) → ev_lk w20 5 = some (.int (Int32.ofInt x15)) → ev_lk w20 6 = some (.long y16) → ev_lk w20 8 = some (.long y17) → ev_lk w20 10 = some (.int (Int32.ofInt x18)) → ev_lk w20 11 = some (.int (Int32.ofInt x19)) → ev_w none (ev_Mof 268) d 45 w20 [] s30 (K45 x14 x15 y16 y17 x18 x19 s30) ev_eU ev_PU) : ∀ (x14 : Int) (hx14 : ev_rng x14), ∀ (x15 : Int) (hx15 : ev_rng x15), ∀ (y16 : Int64), ∀ (y17 : Int64), ∀ (x18 : Int) (hx18 : ev_rng x18), ∀ (x19 : Int) (hx19 : ev_rng x19), ∀ (s30 : ev_St) (w20 : List (Nat × Value)), ev_lk w20 0 = some (.ref 621) → ev_lk w20 2 = some (.int (Int32.ofInt x4)) → ev_lk w20 3 = some (.int (Int32.ofInt x5)) → ev_lk w20 4 = some (.int (Int32.ofInt x14)) → ev_lk w20 5 = some (.int (Int32.ofInt x15)) → ev_lk w20 6 = some (.long y16) → ev_lk w20 8 = some (.long y17) → ev_lk w20 10 = some (.int (Int32.ofInt x18)) → ev_lk w20 11 = some (.int (Int32.ofInt x19)) → ev_w none (ev_Mof 268) d 45 w20 [] s30 (jb_268_45 Q x4 x5 K15 K45 x14 x15 y16 y17 x18 x19 s30) ev_eU ev_PU := by
  intro x14 hx14 x15 hx15 y16 y17 x18 hx18 x19 hx19 s30 w20 e21 e22 e23 e24 e25 e26 e27 e28 e29
  unfold jb_268_45
  refine ev_r_iload (pc := 45) (k := 11) (v := Int32.ofInt x19) (by decide +kernel) (by exact e29) ?_
  refine ev_r_iconst (pc := 47) (k := -1) (by decide +kernel) ?_
  refine ev_r_icmp (pc := 48) (q := .eq) (o := 86) (t := 134) (c := x19 = (-1)) (by decide +kernel) (ev_k_eq hx19 (by decide)) (by decide +kernel) ?_ ?_
  · intro c31
    refine ev_r_aload_n (pc := 134) (k := 0) (v := .ref 621) trivial (by decide +kernel) (by exact e21) ?_
    refine ev_r_getC (pc := 135) (y := 19) (ci := 13) (f := 6) (fin := 1) (k' := 625) (by decide +kernel) (by decide +kernel) (by exact ev_ob_621) rfl rfl ?_
    refine ev_r_iload (pc := 138) (k := 4) (v := Int32.ofInt x14) (by decide +kernel) (by exact e24) ?_
    refine ev_r_iald (pc := 140) hx14 (by decide +kernel) (by exact ev_ab_625) ?_
    intro x32 hx32
    refine ev_r_stat (pc := 141) (y := 504) (kind := 2) (mi := 267) (na := 1) (as := [.int (Int32.ofInt x32)]) (rest := []) (encc := ev_oI) (Q := ev_bl) (fun x S1 h => jt_267 d (by omega) Q x32 hx32 s30 x S1 h) (Or.inl rfl) (by decide +kernel) (by decide +kernel) (by decide +kernel) (by decide +kernel) rfl (by (try simp only [ev_sum, ev_nv_cat]); first | done | rfl) ?_
    intro x34 s33 hx34
    replace hx34 := ev_bl_rng hx34
    show ev_w _ _ _ _ _ [.int (Int32.ofInt x34)] _ _ _ _
    refine ev_r_jn (Q := fun K => ∀ (x35 : Int) (hx35 : ev_rng x35), ∀ (s45 : ev_St) (w36 : List (Nat × Value)), ev_lk w36 0 = some (.ref 621) → ev_lk w36 2 = some (.int (Int32.ofInt x4)) → ev_lk w36 3 = some (.int (Int32.ofInt x5)) → ev_lk w36 4 = some (.int (Int32.ofInt x14)) → ev_lk w36 5 = some (.int (Int32.ofInt x15)) → ev_lk w36 6 = some (.long y16) → ev_lk w36 8 = some (.long y17) → ev_lk w36 10 = some (.int (Int32.ofInt x18)) → ev_w none (ev_Mof 268) d 170 w36 [.int (Int32.ofInt x35)] s45 (K x35 s45) ev_eU ev_PU) ?_ ?_
    · intro x35 hx35 s45 w36 e37 e38 e39 e40 e41 e42 e43 e44
      refine ev_r_istore (pc := 170) (k := 11) (by decide +kernel) (by decide +kernel) rfl ?_
      refine ev_r_aload_n (pc := 172) (k := 0) (v := .ref 621) trivial (by decide +kernel) (by exact (ev_l1 e37 (by decide) (by decide))) ?_
      refine ev_r_getC (pc := 173) (y := 65) (ci := 13) (f := 21) (fin := 1) (k' := 640) (by decide +kernel) (by decide +kernel) (by exact ev_ob_621) rfl rfl ?_
      refine ev_r_iload (pc := 176) (k := 4) (v := Int32.ofInt x14) (by decide +kernel) (by exact (ev_l1 e40 (by decide) (by decide))) ?_
      refine ev_r_aload_n (pc := 178) (k := 0) (v := .ref 621) trivial (by decide +kernel) (by exact (ev_l1 e37 (by decide) (by decide))) ?_
      refine ev_r_getC (pc := 179) (y := 19) (ci := 13) (f := 6) (fin := 1) (k' := 625) (by decide +kernel) (by decide +kernel) (by exact ev_ob_621) rfl rfl ?_
      refine ev_r_iload (pc := 182) (k := 4) (v := Int32.ofInt x14) (by decide +kernel) (by exact (ev_l1 e40 (by decide) (by decide))) ?_
      refine ev_r_iald (pc := 184) hx14 (by decide +kernel) (by exact ev_ab_625) ?_
      intro x46 hx46
      refine ev_r_bipush (pc := 185) (k := 18) (by decide +kernel) (by decide +kernel) ?_
      refine ev_r_jn (Q := fun K => ∀ (x49 : Int) (hx49 : ev_rng x49), ∀ (x48 : Int) (hx48 : ev_rng x48), ∀ (r47 : Nat) (hr47 : ev_isAb r47 1 .int = true), ∀ (s57 : ev_St) (w50 : List (Nat × Value)), ev_lk w50 0 = some (.ref 621) → ev_lk w50 2 = some (.int (Int32.ofInt x4)) → ev_lk w50 3 = some (.int (Int32.ofInt x5)) → ev_lk w50 4 = some (.int (Int32.ofInt x14)) → ev_lk w50 8 = some (.long y17) → ev_lk w50 10 = some (.int (Int32.ofInt x18)) → ev_w none (ev_Mof 268) d 223 w50 [.int (Int32.ofInt x49), .int (Int32.ofInt x48), .ref r47] s57 (K x49 x48 r47 s57) ev_eU ev_PU) ?_ ?_
      · intro x49 hx49 x48 hx48 r47 hr47 s57 w50 e51 e52 e53 e54 e55 e56
        refine ev_r_iast (pc := 223) hx49 hx48 (by decide +kernel) (by exact hr47) ?_
        intro s58
        refine ev_r_aload_n (pc := 224) (k := 0) (v := .ref 621) trivial (by decide +kernel) (by exact e51) ?_
        refine ev_r_getC (pc := 225) (y := 19) (ci := 13) (f := 6) (fin := 1) (k' := 625) (by decide +kernel) (by decide +kernel) (by exact ev_ob_621) rfl rfl ?_
        refine ev_r_iload (pc := 228) (k := 4) (v := Int32.ofInt x14) (by decide +kernel) (by exact e54) ?_
        refine ev_r_iald (pc := 230) hx14 (by decide +kernel) (by exact ev_ab_625) ?_
        intro x59 hx59
        refine ev_r_bipush (pc := 231) (k := 18) (by decide +kernel) (by decide +kernel) ?_
        refine ev_r_jn (Q := fun K => ∀ (y60 : Int64), ∀ (s66 : ev_St) (w61 : List (Nat × Value)), ev_lk w61 0 = some (.ref 621) → ev_lk w61 2 = some (.int (Int32.ofInt x4)) → ev_lk w61 3 = some (.int (Int32.ofInt x5)) → ev_lk w61 4 = some (.int (Int32.ofInt x14)) → ev_w none (ev_Mof 268) d 298 w61 [.long y60] s66 (K y60 s66) ev_eU ev_PU) ?_ ?_
        · intro y60 s66 w61 e62 e63 e64 e65
          refine ev_r_lstore (pc := 298) (k := 12) (by decide +kernel) (by decide +kernel) rfl ?_
          refine ev_r_aload_n (pc := 300) (k := 0) (v := .ref 621) trivial (by decide +kernel) (by exact (ev_l2 e62 (by decide) (by decide) (Or.inl (by decide)))) ?_
          refine ev_r_getC (pc := 301) (y := 71) (ci := 13) (f := 23) (fin := 1) (k' := 642) (by decide +kernel) (by decide +kernel) (by exact ev_ob_621) rfl rfl ?_
          refine ev_r_iload (pc := 304) (k := 4) (v := Int32.ofInt x14) (by decide +kernel) (by exact (ev_l2 e65 (by decide) (by decide) (Or.inl (by decide)))) ?_
          refine ev_r_lload (pc := 306) (k := 12) (v := y60) (by decide +kernel) (by exact ev_l2s) ?_
          refine ev_r_stat (pc := 308) (y := 507) (kind := 2) (mi := 266) (na := 1) (as := [.long y60]) (rest := [.int (Int32.ofInt x14), .ref 642]) (encc := ev_oI) (Q := ev_rng) (fun x S1 h => jt_266 d (by omega) Q y60  s66 x S1 h) (Or.inl rfl) (by decide +kernel) (by decide +kernel) (by decide +kernel) (by decide +kernel) rfl (by (try simp only [ev_sum, ev_nv_cat]); first | done | rfl) ?_
          intro x68 s67 hx68
          show ev_w _ _ _ _ _ [.int (Int32.ofInt x68), .int (Int32.ofInt x14), .ref 642] _ _ _ _
          refine ev_r_iast (pc := 311) hx68 hx14 (by decide +kernel) (by exact ev_ab_642) ?_
          intro s69
          refine ev_r_aload_n (pc := 312) (k := 0) (v := .ref 621) trivial (by decide +kernel) (by exact (ev_l2 e62 (by decide) (by decide) (Or.inl (by decide)))) ?_
          refine ev_r_getC (pc := 313) (y := 68) (ci := 13) (f := 22) (fin := 1) (k' := 641) (by decide +kernel) (by decide +kernel) (by exact ev_ob_621) rfl rfl ?_
          refine ev_r_iload (pc := 316) (k := 4) (v := Int32.ofInt x14) (by decide +kernel) (by exact (ev_l2 e65 (by decide) (by decide) (Or.inl (by decide)))) ?_
          refine ev_r_aload_n (pc := 318) (k := 0) (v := .ref 621) trivial (by decide +kernel) (by exact (ev_l2 e62 (by decide) (by decide) (Or.inl (by decide)))) ?_
          refine ev_r_getC (pc := 319) (y := 34) (ci := 13) (f := 11) (fin := 1) (k' := 630) (by decide +kernel) (by decide +kernel) (by exact ev_ob_621) rfl rfl ?_
          refine ev_r_iload (pc := 322) (k := 4) (v := Int32.ofInt x14) (by decide +kernel) (by exact (ev_l2 e65 (by decide) (by decide) (Or.inl (by decide)))) ?_
          refine ev_r_iald (pc := 324) hx14 (by decide +kernel) (by exact ev_ab_630) ?_
          intro x70 hx70
          refine ev_r_iconst (pc := 325) (k := -1) (by decide +kernel) ?_
          refine ev_r_jn (Q := fun K => ∀ (y71 : Int64), ∀ (x74 : Int) (hx74 : ev_rng x74), ∀ (x73 : Int) (hx73 : ev_rng x73), ∀ (r72 : Nat) (hr72 : ev_isAb r72 1 .int = true), ∀ (s81 : ev_St) (w75 : List (Nat × Value)), ev_lk w75 0 = some (.ref 621) → ev_lk w75 2 = some (.int (Int32.ofInt x4)) → ev_lk w75 3 = some (.int (Int32.ofInt x5)) → ev_lk w75 4 = some (.int (Int32.ofInt x14)) → ev_lk w75 12 = some (.long y71) → ev_w none (ev_Mof 268) d 359 w75 [.int (Int32.ofInt x74), .int (Int32.ofInt x73), .ref r72] s81 (K y71 x74 x73 r72 s81) ev_eU ev_PU) ?_ ?_
          · intro y71 x74 hx74 x73 hx73 r72 hr72 s81 w75 e76 e77 e78 e79 e80
            refine ev_r_iast (pc := 359) hx74 hx73 (by decide +kernel) (by exact hr72) ?_
            intro s82
            refine ev_r_aload_n (pc := 360) (k := 0) (v := .ref 621) trivial (by decide +kernel) (by exact e76) ?_
            refine ev_r_getC (pc := 361) (y := 74) (ci := 13) (f := 24) (fin := 1) (k' := 643) (by decide +kernel) (by decide +kernel) (by exact ev_ob_621) rfl rfl ?_
            refine ev_r_iload (pc := 364) (k := 4) (v := Int32.ofInt x14) (by decide +kernel) (by exact e79) ?_
            refine ev_r_aload_n (pc := 366) (k := 0) (v := .ref 621) trivial (by decide +kernel) (by exact e76) ?_
            refine ev_r_getC (pc := 367) (y := 34) (ci := 13) (f := 11) (fin := 1) (k' := 630) (by decide +kernel) (by decide +kernel) (by exact ev_ob_621) rfl rfl ?_
            refine ev_r_iload (pc := 370) (k := 4) (v := Int32.ofInt x14) (by decide +kernel) (by exact e79) ?_
            refine ev_r_iald (pc := 372) hx14 (by decide +kernel) (by exact ev_ab_630) ?_
            intro x83 hx83
            refine ev_r_iconst (pc := 373) (k := -1) (by decide +kernel) ?_
            refine ev_r_jn (Q := fun K => ∀ (x86 : Int) (hx86 : ev_rng x86), ∀ (x85 : Int) (hx85 : ev_rng x85), ∀ (r84 : Nat) (hr84 : ev_isAb r84 1 .int = true), ∀ (s91 : ev_St) (w87 : List (Nat × Value)), ev_lk w87 0 = some (.ref 621) → ev_lk w87 2 = some (.int (Int32.ofInt x4)) → ev_lk w87 3 = some (.int (Int32.ofInt x5)) → ev_w none (ev_Mof 268) d 437 w87 [.int (Int32.ofInt x86), .int (Int32.ofInt x85), .ref r84] s91 (K x86 x85 r84 s91) ev_eU ev_PU) ?_ ?_
            · intro x86 hx86 x85 hx85 r84 hr84 s91 w87 e88 e89 e90
              refine ev_r_iast (pc := 437) hx86 hx85 (by decide +kernel) (by exact hr84) ?_
              intro s92
              refine ev_r_iinc (pc := 438) (k := 3) (c := -1) (x := x5) (by decide +kernel) (by decide +kernel) (by exact e90) (fun _ => rfl) ?_
              intro x93 hx93
              refine ev_r_goto (pc := 441) (o := (-426)) (t := 15) (by decide +kernel) (by decide +kernel) ?_
              exact hK15 x4 hx4 x93 hx93 s92 _ (by exact (ev_l1 e88 (by decide) (by decide))) (by exact (ev_lk_st1 e89 (by decide) rfl)) (by exact ev_lk_st1_self)
            · intro K437 hK437
              refine ev_r_icmp (pc := 374) (q := .ne) (o := 13) (t := 387) (c := x83 ≠ (-1)) (by decide +kernel) (ev_k_ne hx83 (by decide)) (by decide +kernel) ?_ ?_
              · intro c94
                refine ev_r_aload_n (pc := 387) (k := 0) (v := .ref 621) trivial (by decide +kernel) (by exact e76) ?_
                refine ev_r_getC (pc := 388) (y := 40) (ci := 13) (f := 13) (fin := 1) (k' := 632) (by decide +kernel) (by decide +kernel) (by exact ev_ob_621) rfl rfl ?_
                refine ev_r_iload (pc := 391) (k := 4) (v := Int32.ofInt x14) (by decide +kernel) (by exact e79) ?_
                refine ev_r_iald (pc := 393) hx14 (by decide +kernel) (by exact ev_ab_632) ?_
                intro x95 hx95
                refine ev_r_iconst (pc := 394) (k := -1) (by decide +kernel) ?_
                refine ev_r_icmp (pc := 395) (q := .eq) (o := 22) (t := 417) (c := x95 = (-1)) (by decide +kernel) (ev_k_eq hx95 (by decide)) (by decide +kernel) ?_ ?_
                · intro c96
                  refine ev_r_lload (pc := 417) (k := 12) (v := y71) (by decide +kernel) (by exact e80) ?_
                  refine ev_r_aload_n (pc := 419) (k := 0) (v := .ref 621) trivial (by decide +kernel) (by exact e76) ?_
                  refine ev_r_getC (pc := 420) (y := 37) (ci := 13) (f := 12) (fin := 1) (k' := 631) (by decide +kernel) (by decide +kernel) (by exact ev_ob_621) rfl rfl ?_
                  refine ev_r_iload (pc := 423) (k := 4) (v := Int32.ofInt x14) (by decide +kernel) (by exact e79) ?_
                  refine ev_r_iald (pc := 425) hx14 (by decide +kernel) (by exact ev_ab_631) ?_
                  intro x97 hx97
                  refine ev_r_toL (pc := 426) (i := .i2l) (len := 1) (pc' := 427) (by decide +kernel) rfl ?_
                  intro y98
                  refine ev_r_lconst (pc := 427) (c := 1) (by decide +kernel) ?_
                  refine ev_r_toL (pc := 428) (i := .ladd) (len := 1) (pc' := 429) (by decide +kernel) rfl ?_
                  intro y99
                  refine ev_r_toL (pc := 429) (i := .lmul) (len := 1) (pc' := 430) (by decide +kernel) rfl ?_
                  intro y100
                  refine ev_r_ldc2 (pc := 430) (y := 511) (k := 2) (by decide +kernel) (by decide +kernel) ?_
                  refine ev_r_toL (pc := 433) (i := .ladd) (len := 1) (pc' := 434) (by decide +kernel) rfl ?_
                  intro y101
                  refine ev_r_stat (pc := 434) (y := 507) (kind := 2) (mi := 266) (na := 1) (as := [.long y101]) (rest := [.int (Int32.ofInt x14), .ref 643]) (encc := ev_oI) (Q := ev_rng) (fun x S1 h => jt_266 d (by omega) Q y101  s82 x S1 h) (Or.inl rfl) (by decide +kernel) (by decide +kernel) (by decide +kernel) (by decide +kernel) rfl (by (try simp only [ev_sum, ev_nv_cat]); first | done | rfl) ?_
                  intro x103 s102 hx103
                  show ev_w _ _ _ _ _ [.int (Int32.ofInt x103), .int (Int32.ofInt x14), .ref 643] _ _ _ _
                  exact hK437 x103 hx103 x14 hx14 643 ev_ab_643 s102 _ (by exact e76) (by exact e77) (by exact e78)
                · intro c96
                  refine ev_r_lload (pc := 398) (k := 12) (v := y71) (by decide +kernel) (by exact e80) ?_
                  refine ev_r_lconst (pc := 400) (c := 1) (by decide +kernel) ?_
                  refine ev_r_toL (pc := 401) (i := .ladd) (len := 1) (pc' := 402) (by decide +kernel) rfl ?_
                  intro y104
                  refine ev_r_aload_n (pc := 402) (k := 0) (v := .ref 621) trivial (by decide +kernel) (by exact e76) ?_
                  refine ev_r_getC (pc := 403) (y := 40) (ci := 13) (f := 13) (fin := 1) (k' := 632) (by decide +kernel) (by decide +kernel) (by exact ev_ob_621) rfl rfl ?_
                  refine ev_r_iload (pc := 406) (k := 4) (v := Int32.ofInt x14) (by decide +kernel) (by exact e79) ?_
                  refine ev_r_iald (pc := 408) hx14 (by decide +kernel) (by exact ev_ab_632) ?_
                  intro x105 hx105
                  refine ev_r_toL (pc := 409) (i := .i2l) (len := 1) (pc' := 410) (by decide +kernel) rfl ?_
                  intro y106
                  refine ev_r_toL (pc := 410) (i := .lmul) (len := 1) (pc' := 411) (by decide +kernel) rfl ?_
                  intro y107
                  refine ev_r_stat (pc := 411) (y := 507) (kind := 2) (mi := 266) (na := 1) (as := [.long y107]) (rest := [.int (Int32.ofInt x14), .ref 643]) (encc := ev_oI) (Q := ev_rng) (fun x S1 h => jt_266 d (by omega) Q y107  s82 x S1 h) (Or.inl rfl) (by decide +kernel) (by decide +kernel) (by decide +kernel) (by decide +kernel) rfl (by (try simp only [ev_sum, ev_nv_cat]); first | done | rfl) ?_
                  intro x109 s108 hx109
                  show ev_w _ _ _ _ _ [.int (Int32.ofInt x109), .int (Int32.ofInt x14), .ref 643] _ _ _ _
                  refine ev_r_goto (pc := 414) (o := 23) (t := 437) (by decide +kernel) (by decide +kernel) ?_
                  exact hK437 x109 hx109 x14 hx14 643 ev_ab_643 s108 _ (by exact e76) (by exact e77) (by exact e78)
              · intro c94
                refine ev_r_aload_n (pc := 377) (k := 0) (v := .ref 621) trivial (by decide +kernel) (by exact e76) ?_
                refine ev_r_getC (pc := 378) (y := 71) (ci := 13) (f := 23) (fin := 1) (k' := 642) (by decide +kernel) (by decide +kernel) (by exact ev_ob_621) rfl rfl ?_
                refine ev_r_iload (pc := 381) (k := 4) (v := Int32.ofInt x14) (by decide +kernel) (by exact e79) ?_
                refine ev_r_iald (pc := 383) hx14 (by decide +kernel) (by exact ev_ab_642) ?_
                intro x110 hx110
                refine ev_r_goto (pc := 384) (o := 53) (t := 437) (by decide +kernel) (by decide +kernel) ?_
                exact hK437 x110 hx110 x14 hx14 643 ev_ab_643 s82 _ (by exact e76) (by exact e77) (by exact e78)
          · intro K359 hK359
            refine ev_r_icmp (pc := 326) (q := .ne) (o := 13) (t := 339) (c := x70 ≠ (-1)) (by decide +kernel) (ev_k_ne hx70 (by decide)) (by decide +kernel) ?_ ?_
            · intro c111
              refine ev_r_aload_n (pc := 339) (k := 0) (v := .ref 621) trivial (by decide +kernel) (by exact (ev_l2 e62 (by decide) (by decide) (Or.inl (by decide)))) ?_
              refine ev_r_getC (pc := 340) (y := 65) (ci := 13) (f := 21) (fin := 1) (k' := 640) (by decide +kernel) (by decide +kernel) (by exact ev_ob_621) rfl rfl ?_
              refine ev_r_iload (pc := 343) (k := 4) (v := Int32.ofInt x14) (by decide +kernel) (by exact (ev_l2 e65 (by decide) (by decide) (Or.inl (by decide)))) ?_
              refine ev_r_iald (pc := 345) hx14 (by decide +kernel) (by exact ev_ab_640) ?_
              intro x112 hx112
              refine ev_r_toL (pc := 346) (i := .i2l) (len := 1) (pc' := 347) (by decide +kernel) rfl ?_
              intro y113
              refine ev_r_aload_n (pc := 347) (k := 0) (v := .ref 621) trivial (by decide +kernel) (by exact (ev_l2 e62 (by decide) (by decide) (Or.inl (by decide)))) ?_
              refine ev_r_getC (pc := 348) (y := 37) (ci := 13) (f := 12) (fin := 1) (k' := 631) (by decide +kernel) (by decide +kernel) (by exact ev_ob_621) rfl rfl ?_
              refine ev_r_iload (pc := 351) (k := 4) (v := Int32.ofInt x14) (by decide +kernel) (by exact (ev_l2 e65 (by decide) (by decide) (Or.inl (by decide)))) ?_
              refine ev_r_iald (pc := 353) hx14 (by decide +kernel) (by exact ev_ab_631) ?_
              intro x114 hx114
              refine ev_r_toL (pc := 354) (i := .i2l) (len := 1) (pc' := 355) (by decide +kernel) rfl ?_
              intro y115
              refine ev_r_toL (pc := 355) (i := .lmul) (len := 1) (pc' := 356) (by decide +kernel) rfl ?_
              intro y116
              refine ev_r_stat (pc := 356) (y := 507) (kind := 2) (mi := 266) (na := 1) (as := [.long y116]) (rest := [.int (Int32.ofInt x14), .ref 641]) (encc := ev_oI) (Q := ev_rng) (fun x S1 h => jt_266 d (by omega) Q y116  s69 x S1 h) (Or.inl rfl) (by decide +kernel) (by decide +kernel) (by decide +kernel) (by decide +kernel) rfl (by (try simp only [ev_sum, ev_nv_cat]); first | done | rfl) ?_
              intro x118 s117 hx118
              show ev_w _ _ _ _ _ [.int (Int32.ofInt x118), .int (Int32.ofInt x14), .ref 641] _ _ _ _
              exact hK359 y60 x118 hx118 x14 hx14 641 ev_ab_641 s117 _ (by exact (ev_l2 e62 (by decide) (by decide) (Or.inl (by decide)))) (by exact (ev_l2 e63 (by decide) (by decide) (Or.inl (by decide)))) (by exact (ev_l2 e64 (by decide) (by decide) (Or.inl (by decide)))) (by exact (ev_l2 e65 (by decide) (by decide) (Or.inl (by decide)))) (by exact ev_l2s)
            · intro c111
              refine ev_r_aload_n (pc := 329) (k := 0) (v := .ref 621) trivial (by decide +kernel) (by exact (ev_l2 e62 (by decide) (by decide) (Or.inl (by decide)))) ?_
              refine ev_r_getC (pc := 330) (y := 65) (ci := 13) (f := 21) (fin := 1) (k' := 640) (by decide +kernel) (by decide +kernel) (by exact ev_ob_621) rfl rfl ?_
              refine ev_r_iload (pc := 333) (k := 4) (v := Int32.ofInt x14) (by decide +kernel) (by exact (ev_l2 e65 (by decide) (by decide) (Or.inl (by decide)))) ?_
              refine ev_r_iald (pc := 335) hx14 (by decide +kernel) (by exact ev_ab_640) ?_
              intro x119 hx119
              refine ev_r_goto (pc := 336) (o := 23) (t := 359) (by decide +kernel) (by decide +kernel) ?_
              exact hK359 y60 x119 hx119 x14 hx14 641 ev_ab_641 s69 _ (by exact (ev_l2 e62 (by decide) (by decide) (Or.inl (by decide)))) (by exact (ev_l2 e63 (by decide) (by decide) (Or.inl (by decide)))) (by exact (ev_l2 e64 (by decide) (by decide) (Or.inl (by decide)))) (by exact (ev_l2 e65 (by decide) (by decide) (Or.inl (by decide)))) (by exact ev_l2s)
        · intro K298 hK298
          refine ev_r_icmp (pc := 233) (q := .ne) (o := 8) (t := 241) (c := x59 ≠ 18) (by decide +kernel) (ev_k_ne hx59 (by decide)) (by decide +kernel) ?_ ?_
          · intro c120
            refine ev_r_aload_n (pc := 241) (k := 0) (v := .ref 621) trivial (by decide +kernel) (by exact e51) ?_
            refine ev_r_getC (pc := 242) (y := 19) (ci := 13) (f := 6) (fin := 1) (k' := 625) (by decide +kernel) (by decide +kernel) (by exact ev_ob_621) rfl rfl ?_
            refine ev_r_iload (pc := 245) (k := 4) (v := Int32.ofInt x14) (by decide +kernel) (by exact e54) ?_
            refine ev_r_iald (pc := 247) hx14 (by decide +kernel) (by exact ev_ab_625) ?_
            intro x121 hx121
            refine ev_r_bipush (pc := 248) (k := 7) (by decide +kernel) (by decide +kernel) ?_
            refine ev_r_icmp (pc := 250) (q := .ge) (o := 7) (t := 257) (c := 7 ≤ x121) (by decide +kernel) (ev_k_ge hx121 (by decide)) (by decide +kernel) ?_ ?_
            · intro c122
              refine ev_r_lload (pc := 257) (k := 8) (v := y17) (by decide +kernel) (by exact e55) ?_
              refine ev_r_ldc2 (pc := 259) (y := 511) (k := 2) (by decide +kernel) (by decide +kernel) ?_
              refine ev_r_iload (pc := 262) (k := 10) (v := Int32.ofInt x18) (by decide +kernel) (by exact e56) ?_
              refine ev_r_jn (Q := fun K => ∀ (x125 : Int) (hx125 : ev_rng x125), ∀ (y124 : Int64), ∀ (y123 : Int64), ∀ (s131 : ev_St) (w126 : List (Nat × Value)), ev_lk w126 0 = some (.ref 621) → ev_lk w126 2 = some (.int (Int32.ofInt x4)) → ev_lk w126 3 = some (.int (Int32.ofInt x5)) → ev_lk w126 4 = some (.int (Int32.ofInt x14)) → ev_w none (ev_Mof 268) d 275 w126 [.int (Int32.ofInt x125), .long y124, .long y123] s131 (K x125 y124 y123 s131) ev_eU ev_PU) ?_ ?_
              · intro x125 hx125 y124 y123 s131 w126 e127 e128 e129 e130
                refine ev_r_toL (pc := 275) (i := .i2l) (len := 1) (pc' := 276) (by decide +kernel) rfl ?_
                intro y132
                refine ev_r_toL (pc := 276) (i := .lmul) (len := 1) (pc' := 277) (by decide +kernel) rfl ?_
                intro y133
                refine ev_r_toL (pc := 277) (i := .ladd) (len := 1) (pc' := 278) (by decide +kernel) rfl ?_
                intro y134
                refine ev_r_aload_n (pc := 278) (k := 0) (v := .ref 621) trivial (by decide +kernel) (by exact e127) ?_
                refine ev_r_getC (pc := 279) (y := 19) (ci := 13) (f := 6) (fin := 1) (k' := 625) (by decide +kernel) (by decide +kernel) (by exact ev_ob_621) rfl rfl ?_
                refine ev_r_iload (pc := 282) (k := 4) (v := Int32.ofInt x14) (by decide +kernel) (by exact e130) ?_
                refine ev_r_iald (pc := 284) hx14 (by decide +kernel) (by exact ev_ab_625) ?_
                intro x135 hx135
                refine ev_r_bipush (pc := 285) (k := 8) (by decide +kernel) (by decide +kernel) ?_
                refine ev_r_jn (Q := fun K => ∀ (y137 : Int64), ∀ (y136 : Int64), ∀ (s143 : ev_St) (w138 : List (Nat × Value)), ev_lk w138 0 = some (.ref 621) → ev_lk w138 2 = some (.int (Int32.ofInt x4)) → ev_lk w138 3 = some (.int (Int32.ofInt x5)) → ev_lk w138 4 = some (.int (Int32.ofInt x14)) → ev_w none (ev_Mof 268) d 297 w138 [.long y137, .long y136] s143 (K y137 y136 s143) ev_eU ev_PU) ?_ ?_
                · intro y137 y136 s143 w138 e139 e140 e141 e142
                  refine ev_r_toL (pc := 297) (i := .ladd) (len := 1) (pc' := 298) (by decide +kernel) rfl ?_
                  intro y144
                  exact hK298 y144 s143 _ (by exact e139) (by exact e140) (by exact e141) (by exact e142)
                · intro K297 hK297
                  refine ev_r_icmp (pc := 287) (q := .ne) (o := 9) (t := 296) (c := x135 ≠ 8) (by decide +kernel) (ev_k_ne hx135 (by decide)) (by decide +kernel) ?_ ?_
                  · intro c145
                    refine ev_r_lconst (pc := 296) (c := 0) (by decide +kernel) ?_
                    exact hK297 ((Int64.ofNat ((0 : Fin 2) : Nat))) y134 s131 _ (by exact e127) (by exact e128) (by exact e129) (by exact e130)
                  · intro c145
                    refine ev_r_ldc2 (pc := 290) (y := 511) (k := 2) (by decide +kernel) (by decide +kernel) ?_
                    refine ev_r_goto (pc := 293) (o := 4) (t := 297) (by decide +kernel) (by decide +kernel) ?_
                    exact hK297 ((2)) y134 s131 _ (by exact e127) (by exact e128) (by exact e129) (by exact e130)
              · intro K275 hK275
                refine ev_r_if (pc := 264) (q := .le) (o := 10) (t := 274) (c := x18 ≤ 0) (by decide +kernel) (ev_k_le hx18 ev_rng0) (by decide +kernel) ?_ ?_
                · intro c146
                  refine ev_r_iconst (pc := 274) (k := 0) (by decide +kernel) ?_
                  exact hK275 0 (by decide) ((2)) y17 s58 _ (by exact e51) (by exact e52) (by exact e53) (by exact e54)
                · intro c146
                  refine ev_r_iload (pc := 267) (k := 10) (v := Int32.ofInt x18) (by decide +kernel) (by exact e56) ?_
                  refine ev_r_iconst (pc := 269) (k := 1) (by decide +kernel) ?_
                  refine ev_r_isub (pc := 270) (by decide +kernel) ?_
                  intro x147 hx147
                  refine ev_r_goto (pc := 271) (o := 4) (t := 275) (by decide +kernel) (by decide +kernel) ?_
                  exact hK275 x147 hx147 ((2)) y17 s58 _ (by exact e51) (by exact e52) (by exact e53) (by exact e54)
            · intro c122
              refine ev_r_lconst (pc := 253) (c := 1) (by decide +kernel) ?_
              refine ev_r_goto (pc := 254) (o := 44) (t := 298) (by decide +kernel) (by decide +kernel) ?_
              exact hK298 ((Int64.ofNat ((1 : Fin 2) : Nat))) s58 _ (by exact e51) (by exact e52) (by exact e53) (by exact e54)
          · intro c120
            refine ev_r_lload (pc := 236) (k := 8) (v := y17) (by decide +kernel) (by exact e55) ?_
            refine ev_r_goto (pc := 238) (o := 60) (t := 298) (by decide +kernel) (by decide +kernel) ?_
            exact hK298 y17 s58 _ (by exact e51) (by exact e52) (by exact e53) (by exact e54)
      · intro K223 hK223
        refine ev_r_icmp (pc := 187) (q := .ne) (o := 11) (t := 198) (c := x46 ≠ 18) (by decide +kernel) (ev_k_ne hx46 (by decide)) (by decide +kernel) ?_ ?_
        · intro c148
          refine ev_r_aload_n (pc := 198) (k := 0) (v := .ref 621) trivial (by decide +kernel) (by exact (ev_l1 e37 (by decide) (by decide))) ?_
          refine ev_r_getC (pc := 199) (y := 19) (ci := 13) (f := 6) (fin := 1) (k' := 625) (by decide +kernel) (by decide +kernel) (by exact ev_ob_621) rfl rfl ?_
          refine ev_r_iload (pc := 202) (k := 4) (v := Int32.ofInt x14) (by decide +kernel) (by exact (ev_l1 e40 (by decide) (by decide))) ?_
          refine ev_r_iald (pc := 204) hx14 (by decide +kernel) (by exact ev_ab_625) ?_
          intro x149 hx149
          refine ev_r_if (pc := 205) (q := .ne) (o := 7) (t := 212) (c := x149 ≠ 0) (by decide +kernel) (ev_k_ne hx149 ev_rng0) (by decide +kernel) ?_ ?_
          · intro c150
            refine ev_r_iload (pc := 212) (k := 11) (v := Int32.ofInt x35) (by decide +kernel) (by exact ev_lk_st1_self) ?_
            refine ev_r_if (pc := 214) (q := .eq) (o := 8) (t := 222) (c := x35 = 0) (by decide +kernel) (ev_k_eq hx35 ev_rng0) (by decide +kernel) ?_ ?_
            · intro c151
              refine ev_r_iconst (pc := 222) (k := 0) (by decide +kernel) ?_
              exact hK223 0 (by decide) x14 hx14 640 ev_ab_640 s45 _ (by exact (ev_l1 e37 (by decide) (by decide))) (by exact (ev_l1 e38 (by decide) (by decide))) (by exact (ev_l1 e39 (by decide) (by decide))) (by exact (ev_l1 e40 (by decide) (by decide))) (by exact (ev_l1 e43 (by decide) (by decide))) (by exact (ev_lk_st1 e44 (by decide) rfl))
            · intro c151
              refine ev_r_iload (pc := 217) (k := 5) (v := Int32.ofInt x15) (by decide +kernel) (by exact (ev_l1 e41 (by decide) (by decide))) ?_
              refine ev_r_goto (pc := 219) (o := 4) (t := 223) (by decide +kernel) (by decide +kernel) ?_
              exact hK223 x15 hx15 x14 hx14 640 ev_ab_640 s45 _ (by exact (ev_l1 e37 (by decide) (by decide))) (by exact (ev_l1 e38 (by decide) (by decide))) (by exact (ev_l1 e39 (by decide) (by decide))) (by exact (ev_l1 e40 (by decide) (by decide))) (by exact (ev_l1 e43 (by decide) (by decide))) (by exact (ev_lk_st1 e44 (by decide) rfl))
          · intro c150
            refine ev_r_iconst (pc := 208) (k := 1) (by decide +kernel) ?_
            refine ev_r_goto (pc := 209) (o := 14) (t := 223) (by decide +kernel) (by decide +kernel) ?_
            exact hK223 1 (by decide) x14 hx14 640 ev_ab_640 s45 _ (by exact (ev_l1 e37 (by decide) (by decide))) (by exact (ev_l1 e38 (by decide) (by decide))) (by exact (ev_l1 e39 (by decide) (by decide))) (by exact (ev_l1 e40 (by decide) (by decide))) (by exact (ev_l1 e43 (by decide) (by decide))) (by exact (ev_lk_st1 e44 (by decide) rfl))
        · intro c148
          refine ev_r_lload (pc := 190) (k := 6) (v := y16) (by decide +kernel) (by exact (ev_l1 e42 (by decide) (by decide))) ?_
          refine ev_r_stat (pc := 192) (y := 507) (kind := 2) (mi := 266) (na := 1) (as := [.long y16]) (rest := [.int (Int32.ofInt x14), .ref 640]) (encc := ev_oI) (Q := ev_rng) (fun x S1 h => jt_266 d (by omega) Q y16  s45 x S1 h) (Or.inl rfl) (by decide +kernel) (by decide +kernel) (by decide +kernel) (by decide +kernel) rfl (by (try simp only [ev_sum, ev_nv_cat]); first | done | rfl) ?_
          intro x153 s152 hx153
          show ev_w _ _ _ _ _ [.int (Int32.ofInt x153), .int (Int32.ofInt x14), .ref 640] _ _ _ _
          refine ev_r_goto (pc := 195) (o := 28) (t := 223) (by decide +kernel) (by decide +kernel) ?_
          exact hK223 x153 hx153 x14 hx14 640 ev_ab_640 s152 _ (by exact (ev_l1 e37 (by decide) (by decide))) (by exact (ev_l1 e38 (by decide) (by decide))) (by exact (ev_l1 e39 (by decide) (by decide))) (by exact (ev_l1 e40 (by decide) (by decide))) (by exact (ev_l1 e43 (by decide) (by decide))) (by exact (ev_lk_st1 e44 (by decide) rfl))
    · intro K170 hK170
      refine ev_r_jn (Q := fun K => ∀ (s163 : ev_St) (w154 : List (Nat × Value)), ev_lk w154 0 = some (.ref 621) → ev_lk w154 2 = some (.int (Int32.ofInt x4)) → ev_lk w154 3 = some (.int (Int32.ofInt x5)) → ev_lk w154 4 = some (.int (Int32.ofInt x14)) → ev_lk w154 5 = some (.int (Int32.ofInt x15)) → ev_lk w154 6 = some (.long y16) → ev_lk w154 8 = some (.long y17) → ev_lk w154 10 = some (.int (Int32.ofInt x18)) → ev_w none (ev_Mof 268) d 165 w154 [] s163 (K  s163) ev_eU ev_PU) ?_ ?_
      · intro  s163 w154 e155 e156 e157 e158 e159 e160 e161 e162
        refine ev_r_iconst (pc := 165) (k := 1) (by decide +kernel) ?_
        refine ev_r_goto (pc := 166) (o := 4) (t := 170) (by decide +kernel) (by decide +kernel) ?_
        exact hK170 1 (by decide) s163 _ (by exact e155) (by exact e156) (by exact e157) (by exact e158) (by exact e159) (by exact e160) (by exact e161) (by exact e162)
      · intro K165 hK165
        refine ev_r_if (pc := 144) (q := .ne) (o := 21) (t := 165) (c := x34 ≠ 0) (by decide +kernel) (ev_k_ne hx34 ev_rng0) (by decide +kernel) ?_ ?_
        · intro c164
          exact hK165  s33 _ (by exact e21) (by exact e22) (by exact e23) (by exact e24) (by exact e25) (by exact e26) (by exact e27) (by exact e28)
        · intro c164
          refine ev_r_aload_n (pc := 147) (k := 0) (v := .ref 621) trivial (by decide +kernel) (by exact e21) ?_
          refine ev_r_getC (pc := 148) (y := 19) (ci := 13) (f := 6) (fin := 1) (k' := 625) (by decide +kernel) (by decide +kernel) (by exact ev_ob_621) rfl rfl ?_
          refine ev_r_iload (pc := 151) (k := 4) (v := Int32.ofInt x14) (by decide +kernel) (by exact e24) ?_
          refine ev_r_iald (pc := 153) hx14 (by decide +kernel) (by exact ev_ab_625) ?_
          intro x165 hx165
          refine ev_r_bipush (pc := 154) (k := 13) (by decide +kernel) (by decide +kernel) ?_
          refine ev_r_jn (Q := fun K => ∀ (s175 : ev_St) (w166 : List (Nat × Value)), ev_lk w166 0 = some (.ref 621) → ev_lk w166 2 = some (.int (Int32.ofInt x4)) → ev_lk w166 3 = some (.int (Int32.ofInt x5)) → ev_lk w166 4 = some (.int (Int32.ofInt x14)) → ev_lk w166 5 = some (.int (Int32.ofInt x15)) → ev_lk w166 6 = some (.long y16) → ev_lk w166 8 = some (.long y17) → ev_lk w166 10 = some (.int (Int32.ofInt x18)) → ev_w none (ev_Mof 268) d 169 w166 [] s175 (K  s175) ev_eU ev_PU) ?_ ?_
          · intro  s175 w166 e167 e168 e169 e170 e171 e172 e173 e174
            refine ev_r_iconst (pc := 169) (k := 0) (by decide +kernel) ?_
            exact hK170 0 (by decide) s175 _ (by exact e167) (by exact e168) (by exact e169) (by exact e170) (by exact e171) (by exact e172) (by exact e173) (by exact e174)
          · intro K169 hK169
            refine ev_r_icmp (pc := 156) (q := .ne) (o := 13) (t := 169) (c := x165 ≠ 13) (by decide +kernel) (ev_k_ne hx165 (by decide)) (by decide +kernel) ?_ ?_
            · intro c176
              exact hK169  s33 _ (by exact e21) (by exact e22) (by exact e23) (by exact e24) (by exact e25) (by exact e26) (by exact e27) (by exact e28)
            · intro c176
              refine ev_r_iload (pc := 159) (k := 10) (v := Int32.ofInt x18) (by decide +kernel) (by exact e28) ?_
              refine ev_r_iconst (pc := 161) (k := 1) (by decide +kernel) ?_
              refine ev_r_icmp (pc := 162) (q := .le) (o := 7) (t := 169) (c := x18 ≤ 1) (by decide +kernel) (ev_k_le hx18 (by decide)) (by decide +kernel) ?_ ?_
              · intro c177
                exact hK169  s33 _ (by exact e21) (by exact e22) (by exact e23) (by exact e24) (by exact e25) (by exact e26) (by exact e27) (by exact e28)
              · intro c177
                exact hK165  s33 _ (by exact e21) (by exact e22) (by exact e23) (by exact e24) (by exact e25) (by exact e26) (by exact e27) (by exact e28)
  · intro c31
    refine ev_r_iload (pc := 51) (k := 5) (v := Int32.ofInt x15) (by decide +kernel) (by exact e25) ?_
    refine ev_r_iconst (pc := 53) (k := -1) (by decide +kernel) ?_
    refine ev_r_jn (Q := fun K => ∀ (x178 : Int) (hx178 : ev_rng x178), ∀ (s188 : ev_St) (w179 : List (Nat × Value)), ev_lk w179 0 = some (.ref 621) → ev_lk w179 2 = some (.int (Int32.ofInt x4)) → ev_lk w179 3 = some (.int (Int32.ofInt x5)) → ev_lk w179 4 = some (.int (Int32.ofInt x14)) → ev_lk w179 6 = some (.long y16) → ev_lk w179 8 = some (.long y17) → ev_lk w179 10 = some (.int (Int32.ofInt x18)) → ev_lk w179 11 = some (.int (Int32.ofInt x19)) → ev_w none (ev_Mof 268) d 85 w179 [.int (Int32.ofInt x178)] s188 (K x178 s188) ev_eU ev_PU) ?_ ?_
    · intro x178 hx178 s188 w179 e180 e181 e182 e183 e184 e185 e186 e187
      refine ev_r_istore (pc := 85) (k := 5) (by decide +kernel) (by decide +kernel) rfl ?_
      refine ev_r_lload (pc := 87) (k := 6) (v := y16) (by decide +kernel) (by exact (ev_l1 e184 (by decide) (by decide))) ?_
      refine ev_r_aload_n (pc := 89) (k := 0) (v := .ref 621) trivial (by decide +kernel) (by exact (ev_l1 e180 (by decide) (by decide))) ?_
      refine ev_r_getC (pc := 90) (y := 68) (ci := 13) (f := 22) (fin := 1) (k' := 641) (by decide +kernel) (by decide +kernel) (by exact ev_ob_621) rfl rfl ?_
      refine ev_r_iload_n (pc := 93) (k := 2) (v := Int32.ofInt x4) (by decide +kernel) (by exact (ev_l1 e181 (by decide) (by decide))) ?_
      refine ev_r_iload (pc := 94) (k := 11) (v := Int32.ofInt x19) (by decide +kernel) (by exact (ev_l1 e187 (by decide) (by decide))) ?_
      refine ev_r_iadd (pc := 96) (by decide +kernel) ?_
      intro x189 hx189
      refine ev_r_iald (pc := 97) hx189 (by decide +kernel) (by exact ev_ab_641) ?_
      intro x190 hx190
      refine ev_r_toL (pc := 98) (i := .i2l) (len := 1) (pc' := 99) (by decide +kernel) rfl ?_
      intro y191
      refine ev_r_toL (pc := 99) (i := .ladd) (len := 1) (pc' := 100) (by decide +kernel) rfl ?_
      intro y192
      refine ev_r_lstore (pc := 100) (k := 6) (by decide +kernel) (by decide +kernel) rfl ?_
      refine ev_r_lload (pc := 102) (k := 8) (v := y17) (by decide +kernel) (by exact (ev_l2 (ev_l1 e185 (by decide) (by decide)) (by decide) (by decide) (Or.inl (by decide)))) ?_
      refine ev_r_aload_n (pc := 104) (k := 0) (v := .ref 621) trivial (by decide +kernel) (by exact (ev_l2 (ev_l1 e180 (by decide) (by decide)) (by decide) (by decide) (Or.inl (by decide)))) ?_
      refine ev_r_getC (pc := 105) (y := 74) (ci := 13) (f := 24) (fin := 1) (k' := 643) (by decide +kernel) (by decide +kernel) (by exact ev_ob_621) rfl rfl ?_
      refine ev_r_iload_n (pc := 108) (k := 2) (v := Int32.ofInt x4) (by decide +kernel) (by exact (ev_l2 (ev_l1 e181 (by decide) (by decide)) (by decide) (by decide) (Or.inl (by decide)))) ?_
      refine ev_r_iload (pc := 109) (k := 11) (v := Int32.ofInt x19) (by decide +kernel) (by exact (ev_l2 (ev_l1 e187 (by decide) (by decide)) (by decide) (by decide) (Or.inl (by decide)))) ?_
      refine ev_r_iadd (pc := 111) (by decide +kernel) ?_
      intro x193 hx193
      refine ev_r_iald (pc := 112) hx193 (by decide +kernel) (by exact ev_ab_643) ?_
      intro x194 hx194
      refine ev_r_toL (pc := 113) (i := .i2l) (len := 1) (pc' := 114) (by decide +kernel) rfl ?_
      intro y195
      refine ev_r_toL (pc := 114) (i := .ladd) (len := 1) (pc' := 115) (by decide +kernel) rfl ?_
      intro y196
      refine ev_r_lstore (pc := 115) (k := 8) (by decide +kernel) (by decide +kernel) rfl ?_
      refine ev_r_iinc (pc := 117) (k := 10) (c := 1) (x := x18) (by decide +kernel) (by decide +kernel) (by exact (ev_l2 (ev_l2 (ev_l1 e186 (by decide) (by decide)) (by decide) (by decide) (Or.inl (by decide))) (by decide) (by decide) (Or.inl (by decide)))) (fun _ => rfl) ?_
      intro x197 hx197
      refine ev_r_aload_n (pc := 120) (k := 0) (v := .ref 621) trivial (by decide +kernel) (by exact (ev_l1 (ev_l2 (ev_l2 (ev_l1 e180 (by decide) (by decide)) (by decide) (by decide) (Or.inl (by decide))) (by decide) (by decide) (Or.inl (by decide))) (by decide) (by decide))) ?_
      refine ev_r_getC (pc := 121) (y := 25) (ci := 13) (f := 8) (fin := 1) (k' := 627) (by decide +kernel) (by decide +kernel) (by exact ev_ob_621) rfl rfl ?_
      refine ev_r_iload_n (pc := 124) (k := 2) (v := Int32.ofInt x4) (by decide +kernel) (by exact (ev_l1 (ev_l2 (ev_l2 (ev_l1 e181 (by decide) (by decide)) (by decide) (by decide) (Or.inl (by decide))) (by decide) (by decide) (Or.inl (by decide))) (by decide) (by decide))) ?_
      refine ev_r_iload (pc := 125) (k := 11) (v := Int32.ofInt x19) (by decide +kernel) (by exact (ev_l1 (ev_l2 (ev_l2 (ev_l1 e187 (by decide) (by decide)) (by decide) (by decide) (Or.inl (by decide))) (by decide) (by decide) (Or.inl (by decide))) (by decide) (by decide))) ?_
      refine ev_r_iadd (pc := 127) (by decide +kernel) ?_
      intro x198 hx198
      refine ev_r_iald (pc := 128) hx198 (by decide +kernel) (by exact ev_ab_627) ?_
      intro x199 hx199
      refine ev_r_istore (pc := 129) (k := 11) (by decide +kernel) (by decide +kernel) rfl ?_
      refine ev_r_goto (pc := 131) (o := (-86)) (t := 45) (by decide +kernel) (by decide +kernel) ?_
      exact hK45 x14 hx14 x178 hx178 y192 y196 x197 hx197 x199 hx199 s188 _ (by exact (ev_l1 (ev_l1 (ev_l2 (ev_l2 (ev_l1 e180 (by decide) (by decide)) (by decide) (by decide) (Or.inl (by decide))) (by decide) (by decide) (Or.inl (by decide))) (by decide) (by decide)) (by decide) (by decide))) (by exact (ev_l1 (ev_l1 (ev_l2 (ev_l2 (ev_l1 e181 (by decide) (by decide)) (by decide) (by decide) (Or.inl (by decide))) (by decide) (by decide) (Or.inl (by decide))) (by decide) (by decide)) (by decide) (by decide))) (by exact (ev_l1 (ev_l1 (ev_l2 (ev_l2 (ev_l1 e182 (by decide) (by decide)) (by decide) (by decide) (Or.inl (by decide))) (by decide) (by decide) (Or.inl (by decide))) (by decide) (by decide)) (by decide) (by decide))) (by exact (ev_l1 (ev_l1 (ev_l2 (ev_l2 (ev_lk_st1 e183 (by decide) rfl) (by decide) (by decide) (Or.inl (by decide))) (by decide) (by decide) (Or.inl (by decide))) (by decide) (by decide)) (by decide) (by decide))) (by exact (ev_l1 (ev_l1 (ev_l2 (ev_l2 ev_lk_st1_self (by decide) (by decide) (Or.inr rfl)) (by decide) (by decide) (Or.inl (by decide))) (by decide) (by decide)) (by decide) (by decide))) (by exact (ev_l1 (ev_l1 (ev_l2 ev_l2s (by decide) (by decide) (Or.inl (by decide))) (by decide) (by decide)) (by decide) (by decide))) (by exact (ev_l1 (ev_l1 ev_l2s (by decide) (by decide)) (by decide) (by decide))) (by exact (ev_lk_st1 ev_lk_st1_self (by decide) rfl)) (by exact ev_lk_st1_self)
    · intro K85 hK85
      refine ev_r_jn (Q := fun K => ∀ (s209 : ev_St) (w200 : List (Nat × Value)), ev_lk w200 0 = some (.ref 621) → ev_lk w200 2 = some (.int (Int32.ofInt x4)) → ev_lk w200 3 = some (.int (Int32.ofInt x5)) → ev_lk w200 4 = some (.int (Int32.ofInt x14)) → ev_lk w200 6 = some (.long y16) → ev_lk w200 8 = some (.long y17) → ev_lk w200 10 = some (.int (Int32.ofInt x18)) → ev_lk w200 11 = some (.int (Int32.ofInt x19)) → ev_w none (ev_Mof 268) d 71 w200 [] s209 (K  s209) ev_eU ev_PU) ?_ ?_
      · intro  s209 w200 e201 e202 e203 e204 e205 e206 e207 e208
        refine ev_r_aload_n (pc := 71) (k := 0) (v := .ref 621) trivial (by decide +kernel) (by exact e201) ?_
        refine ev_r_getC (pc := 72) (y := 65) (ci := 13) (f := 21) (fin := 1) (k' := 640) (by decide +kernel) (by decide +kernel) (by exact ev_ob_621) rfl rfl ?_
        refine ev_r_iload_n (pc := 75) (k := 2) (v := Int32.ofInt x4) (by decide +kernel) (by exact e202) ?_
        refine ev_r_iload (pc := 76) (k := 11) (v := Int32.ofInt x19) (by decide +kernel) (by exact e208) ?_
        refine ev_r_iadd (pc := 78) (by decide +kernel) ?_
        intro x210 hx210
        refine ev_r_iald (pc := 79) hx210 (by decide +kernel) (by exact ev_ab_640) ?_
        intro x211 hx211
        refine ev_r_goto (pc := 80) (o := 5) (t := 85) (by decide +kernel) (by decide +kernel) ?_
        exact hK85 x211 hx211 s209 _ (by exact e201) (by exact e202) (by exact e203) (by exact e204) (by exact e205) (by exact e206) (by exact e207) (by exact e208)
      · intro K71 hK71
        refine ev_r_icmp (pc := 54) (q := .eq) (o := 17) (t := 71) (c := x15 = (-1)) (by decide +kernel) (ev_k_eq hx15 (by decide)) (by decide +kernel) ?_ ?_
        · intro c212
          exact hK71  s30 _ (by exact e21) (by exact e22) (by exact e23) (by exact e24) (by exact e26) (by exact e27) (by exact e28) (by exact e29)
        · intro c212
          refine ev_r_aload_n (pc := 57) (k := 0) (v := .ref 621) trivial (by decide +kernel) (by exact e21) ?_
          refine ev_r_getC (pc := 58) (y := 65) (ci := 13) (f := 21) (fin := 1) (k' := 640) (by decide +kernel) (by decide +kernel) (by exact ev_ob_621) rfl rfl ?_
          refine ev_r_iload_n (pc := 61) (k := 2) (v := Int32.ofInt x4) (by decide +kernel) (by exact e22) ?_
          refine ev_r_iload (pc := 62) (k := 11) (v := Int32.ofInt x19) (by decide +kernel) (by exact e29) ?_
          refine ev_r_iadd (pc := 64) (by decide +kernel) ?_
          intro x213 hx213
          refine ev_r_iald (pc := 65) hx213 (by decide +kernel) (by exact ev_ab_640) ?_
          intro x214 hx214
          refine ev_r_iload (pc := 66) (k := 5) (v := Int32.ofInt x15) (by decide +kernel) (by exact e25) ?_
          refine ev_r_icmp (pc := 68) (q := .ge) (o := 15) (t := 83) (c := x15 ≤ x214) (by decide +kernel) (ev_k_ge hx214 hx15) (by decide +kernel) ?_ ?_
          · intro c215
            refine ev_r_iload (pc := 83) (k := 5) (v := Int32.ofInt x15) (by decide +kernel) (by exact e25) ?_
            exact hK85 x15 hx15 s30 _ (by exact e21) (by exact e22) (by exact e23) (by exact e24) (by exact e26) (by exact e27) (by exact e28) (by exact e29)
          · intro c215
            exact hK71  s30 _ (by exact e21) (by exact e22) (by exact e23) (by exact e24) (by exact e26) (by exact e27) (by exact e28) (by exact e29)
theorem jlt_268_45 (d : Nat) (hd : 2 ≤ d + 1) (Q : Nat) (x4 : Int) (x5 : Int) (hx4 : ev_rng x4) (hx5 : ev_rng x5) (K15 : Int → Int → ev_St → Option ((Unit) × ev_St)) (hK15 : ∀ (x4 : Int) (hx4 : ev_rng x4), ∀ (x5 : Int) (hx5 : ev_rng x5), ∀ (s10 : ev_St) (w6 : List (Nat × Value)), ev_lk w6 0 = some (.ref 621) → ev_lk w6 2 = some (.int (Int32.ofInt x4)) → ev_lk w6 3 = some (.int (Int32.ofInt x5)) → ev_w none (ev_Mof 268) d 15 w6 [] s10 (K15 x4 x5 s10) ev_eU ev_PU) : ∀ q : Nat, ∀ (x14 : Int) (hx14 : ev_rng x14), ∀ (x15 : Int) (hx15 : ev_rng x15), ∀ (y16 : Int64), ∀ (y17 : Int64), ∀ (x18 : Int) (hx18 : ev_rng x18), ∀ (x19 : Int) (hx19 : ev_rng x19), ∀ (s30 : ev_St) (w20 : List (Nat × Value)), ev_lk w20 0 = some (.ref 621) → ev_lk w20 2 = some (.int (Int32.ofInt x4)) → ev_lk w20 3 = some (.int (Int32.ofInt x5)) → ev_lk w20 4 = some (.int (Int32.ofInt x14)) → ev_lk w20 5 = some (.int (Int32.ofInt x15)) → ev_lk w20 6 = some (.long y16) → ev_lk w20 8 = some (.long y17) → ev_lk w20 10 = some (.int (Int32.ofInt x18)) → ev_lk w20 11 = some (.int (Int32.ofInt x19)) → ev_w none (ev_Mof 268) d 45 w20 [] s30 (jl_268_45 Q x4 x5 K15 q x14 x15 y16 y17 x18 x19 s30) ev_eU ev_PU := by
  intro q
  induction q with
  | zero =>
    intro x14 hx14 x15 hx15 y16 y17 x18 hx18 x19 hx19 s30 w20 e21 e22 e23 e24 e25 e26 e27 e28 e29
    exact ev_w_none
  | succ q ih => exact jbt_268_45 d hd Q x4 x5 hx4 hx5 K15 hK15 _ ih
def jb_268_15 (Q : Nat)   (K15 : Int → Int → ev_St → Option ((Unit) × ev_St)) (x4 : Int) (x5 : Int) (s10 : ev_St) : Option ((Unit) × ev_St) := if x5 < 0 then (some ((), s10)) else (ev_ck (x4 + x5) fun x12 => ev_if ((0 : Int) ≤ x12 ∧ x12 < (ev_aln 626 : Int)) (ev_b (s10.1 626 (Int.toNat x12)) fun x13 => jl_268_45 Q x4 x5 K15 Q x12 ((-1)) ((Int64.ofNat ((0 : Fin 2) : Nat))) ((Int64.ofNat ((0 : Fin 2) : Nat))) 0 x13 s10))
def jl_268_15 (Q : Nat)   : Nat → Int → Int → ev_St → Option ((Unit) × ev_St)
  | 0 => fun _ _ _ => none
  | q + 1 => jb_268_15 Q   (jl_268_15 Q   q)
theorem jbt_268_15 (d : Nat) (hd : 2 ≤ d + 1) (Q : Nat)     (K15 : Int → Int → ev_St → Option ((Unit) × ev_St)) (hK15 : ∀ (x4 : Int) (hx4 : ev_rng x4), ∀ (x5 : Int) (hx5 : ev_rng x5), ∀ (s10 : ev_St) (w6 : List (Nat × Value)), ev_lk w6 0 = some (.ref 621) → ev_lk w6 2 = some (.int (Int32.ofInt x4)) → ev_lk w6 3 = some (.int (Int32.ofInt x5)) → ev_w none (ev_Mof 268) d 15 w6 [] s10 (K15 x4 x5 s10) ev_eU ev_PU) : ∀ (x4 : Int) (hx4 : ev_rng x4), ∀ (x5 : Int) (hx5 : ev_rng x5), ∀ (s10 : ev_St) (w6 : List (Nat × Value)), ev_lk w6 0 = some (.ref 621) → ev_lk w6 2 = some (.int (Int32.ofInt x4)) → ev_lk w6 3 = some (.int (Int32.ofInt x5)) → ev_w none (ev_Mof 268) d 15 w6 [] s10 (jb_268_15 Q   K15 x4 x5 s10) ev_eU ev_PU := by
  intro x4 hx4 x5 hx5 s10 w6 e7 e8 e9
  unfold jb_268_15
  refine ev_r_iload_n (pc := 15) (k := 3) (v := Int32.ofInt x5) (by decide +kernel) (by exact e9) ?_
  refine ev_r_if (pc := 16) (q := .lt) (o := 428) (t := 444) (c := x5 < 0) (by decide +kernel) (ev_k_lt hx5 ev_rng0) (by decide +kernel) ?_ ?_
  · intro c11
    exact ev_r_return (pc := 444) (x := ()) trivial (by decide +kernel) (by decide +kernel) rfl
  · intro c11
    refine ev_r_iload_n (pc := 19) (k := 2) (v := Int32.ofInt x4) (by decide +kernel) (by exact e8) ?_
    refine ev_r_iload_n (pc := 20) (k := 3) (v := Int32.ofInt x5) (by decide +kernel) (by exact e9) ?_
    refine ev_r_iadd (pc := 21) (by decide +kernel) ?_
    intro x12 hx12
    refine ev_r_istore (pc := 22) (k := 4) (by decide +kernel) (by decide +kernel) rfl ?_
    refine ev_r_iconst (pc := 24) (k := -1) (by decide +kernel) ?_
    refine ev_r_istore (pc := 25) (k := 5) (by decide +kernel) (by decide +kernel) rfl ?_
    refine ev_r_lconst (pc := 27) (c := 0) (by decide +kernel) ?_
    refine ev_r_lstore (pc := 28) (k := 6) (by decide +kernel) (by decide +kernel) rfl ?_
    refine ev_r_lconst (pc := 30) (c := 0) (by decide +kernel) ?_
    refine ev_r_lstore (pc := 31) (k := 8) (by decide +kernel) (by decide +kernel) rfl ?_
    refine ev_r_iconst (pc := 33) (k := 0) (by decide +kernel) ?_
    refine ev_r_istore (pc := 34) (k := 10) (by decide +kernel) (by decide +kernel) rfl ?_
    refine ev_r_aload_n (pc := 36) (k := 0) (v := .ref 621) trivial (by decide +kernel) (by exact (ev_l1 (ev_l2 (ev_l2 (ev_l1 (ev_l1 e7 (by decide) (by decide)) (by decide) (by decide)) (by decide) (by decide) (Or.inl (by decide))) (by decide) (by decide) (Or.inl (by decide))) (by decide) (by decide))) ?_
    refine ev_r_getC (pc := 37) (y := 22) (ci := 13) (f := 7) (fin := 1) (k' := 626) (by decide +kernel) (by decide +kernel) (by exact ev_ob_621) rfl rfl ?_
    refine ev_r_iload (pc := 40) (k := 4) (v := Int32.ofInt x12) (by decide +kernel) (by exact (ev_l1 (ev_l2 (ev_l2 (ev_lk_st1 ev_lk_st1_self (by decide) rfl) (by decide) (by decide) (Or.inl (by decide))) (by decide) (by decide) (Or.inl (by decide))) (by decide) (by decide))) ?_
    refine ev_r_iald (pc := 42) hx12 (by decide +kernel) (by exact ev_ab_626) ?_
    intro x13 hx13
    refine ev_r_istore (pc := 43) (k := 11) (by decide +kernel) (by decide +kernel) rfl ?_
    exact jlt_268_45 d hd Q x4 x5 hx4 hx5 K15 hK15 Q x12 hx12 ((-1)) (by decide) ((Int64.ofNat ((0 : Fin 2) : Nat))) ((Int64.ofNat ((0 : Fin 2) : Nat))) 0 (by decide) x13 hx13 s10 _ (by exact (ev_l1 (ev_l1 (ev_l2 (ev_l2 (ev_l1 (ev_l1 e7 (by decide) (by decide)) (by decide) (by decide)) (by decide) (by decide) (Or.inl (by decide))) (by decide) (by decide) (Or.inl (by decide))) (by decide) (by decide)) (by decide) (by decide))) (by exact (ev_l1 (ev_l1 (ev_l2 (ev_l2 (ev_l1 (ev_l1 e8 (by decide) (by decide)) (by decide) (by decide)) (by decide) (by decide) (Or.inl (by decide))) (by decide) (by decide) (Or.inl (by decide))) (by decide) (by decide)) (by decide) (by decide))) (by exact (ev_l1 (ev_l1 (ev_l2 (ev_l2 (ev_l1 (ev_lk_st1 e9 (by decide) rfl) (by decide) (by decide)) (by decide) (by decide) (Or.inl (by decide))) (by decide) (by decide) (Or.inl (by decide))) (by decide) (by decide)) (by decide) (by decide))) (by exact (ev_l1 (ev_l1 (ev_l2 (ev_l2 (ev_lk_st1 ev_lk_st1_self (by decide) rfl) (by decide) (by decide) (Or.inl (by decide))) (by decide) (by decide) (Or.inl (by decide))) (by decide) (by decide)) (by decide) (by decide))) (by exact (ev_l1 (ev_l1 (ev_l2 (ev_l2 ev_lk_st1_self (by decide) (by decide) (Or.inr rfl)) (by decide) (by decide) (Or.inl (by decide))) (by decide) (by decide)) (by decide) (by decide))) (by exact (ev_l1 (ev_l1 (ev_l2 ev_l2s (by decide) (by decide) (Or.inl (by decide))) (by decide) (by decide)) (by decide) (by decide))) (by exact (ev_l1 (ev_l1 ev_l2s (by decide) (by decide)) (by decide) (by decide))) (by exact (ev_lk_st1 ev_lk_st1_self (by decide) rfl)) (by exact ev_lk_st1_self)
theorem jlt_268_15 (d : Nat) (hd : 2 ≤ d + 1) (Q : Nat)     : ∀ q : Nat, ∀ (x4 : Int) (hx4 : ev_rng x4), ∀ (x5 : Int) (hx5 : ev_rng x5), ∀ (s10 : ev_St) (w6 : List (Nat × Value)), ev_lk w6 0 = some (.ref 621) → ev_lk w6 2 = some (.int (Int32.ofInt x4)) → ev_lk w6 3 = some (.int (Int32.ofInt x5)) → ev_w none (ev_Mof 268) d 15 w6 [] s10 (jl_268_15 Q   q x4 x5 s10) ev_eU ev_PU := by
  intro q
  induction q with
  | zero =>
    intro x4 hx4 x5 hx5 s10 w6 e7 e8 e9
    exact ev_w_none
  | succ q ih => exact jbt_268_15 d hd Q     _ ih
/-- MendBenchModel.facts(I)V -/
def jm_268 (Q : Nat) (a0 : Int) (S : ev_St) : Option ((Unit) × ev_St) := ev_ck (320 * a0) fun x1 => ev_if ((0 : Int) ≤ a0 ∧ a0 < (ev_aln 635 : Int)) (ev_b (S.1 635 (Int.toNat a0)) fun x2 => ev_ck (x2 - 1) fun x3 => jl_268_15 Q   Q x1 x3 S)
theorem jt_268 (d : Nat) (hd : 2 ≤ d) (Q : Nat) (a0 : Int) (ha0 : ev_rng a0) (S : ev_St) (x : Unit) (S' : ev_St) (hJ : jm_268 Q a0 S = some (x, S')) : ev_Ref d 268 [.ref 621, .int (Int32.ofInt a0)] S (ev_eU x) S' (ev_PU x) := by
  obtain ⟨d, rfl⟩ : ∃ e, d = e + 1 := ⟨d - 1, by omega⟩
  refine ev_ref_of (P := ev_PU) (lv := [(0, .ref 621), (1, .int (Int32.ofInt a0))]) (by decide +kernel) (by (try simp only [ev_sum, ev_nv_cat]); first | done | rfl) (by (try simp only [lv_args, ev_nv_cat]); first | done | rfl) ?_ x S' hJ
  unfold jm_268
  refine ev_r_sipush (pc := 0) (k := 320) (by decide +kernel) (by decide +kernel) ?_
  refine ev_r_iload_n (pc := 3) (k := 1) (v := Int32.ofInt a0) (by decide +kernel) (by rfl) ?_
  refine ev_r_imul (pc := 4) (by decide +kernel) ?_
  intro x1 hx1
  refine ev_r_istore_n (pc := 5) (k := 2) (by decide +kernel) (by decide +kernel) rfl ?_
  refine ev_r_aload_n (pc := 6) (k := 0) (v := .ref 621) trivial (by decide +kernel) (by exact (ev_l1 (by rfl) (by decide) (by decide))) ?_
  refine ev_r_getC (pc := 7) (y := 50) (ci := 13) (f := 16) (fin := 1) (k' := 635) (by decide +kernel) (by decide +kernel) (by exact ev_ob_621) rfl rfl ?_
  refine ev_r_iload_n (pc := 10) (k := 1) (v := Int32.ofInt a0) (by decide +kernel) (by exact (ev_lk_st1 (by rfl) (by decide) rfl)) ?_
  refine ev_r_iald (pc := 11) ha0 (by decide +kernel) (by exact ev_ab_635) ?_
  intro x2 hx2
  refine ev_r_iconst (pc := 12) (k := 1) (by decide +kernel) ?_
  refine ev_r_isub (pc := 13) (by decide +kernel) ?_
  intro x3 hx3
  refine ev_r_istore_n (pc := 14) (k := 3) (by decide +kernel) (by decide +kernel) rfl ?_
  exact jlt_268_15 d hd Q     Q x1 hx1 x3 hx3 S _ (by exact (ev_l1 (ev_l1 (by rfl) (by decide) (by decide)) (by decide) (by decide))) (by exact (ev_lk_st1 ev_lk_st1_self (by decide) rfl)) (by exact ev_lk_st1_self)
