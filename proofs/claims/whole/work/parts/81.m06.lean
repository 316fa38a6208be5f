/-! METHODS as functions, laid by decomp.py -/
theorem ev_fo_11_8 {k : Nat} (h : ev_isOb k 11 = true) : ev_isAb (k + 4) 1 .int = true := ev_foA (by decide +kernel) h
theorem ev_fo_11_9 {k : Nat} (h : ev_isOb k 11 = true) : ev_isAb (k + 5) 1 .int = true := ev_foA (by decide +kernel) h
theorem ev_fo_11_1 {k : Nat} (h : ev_isOb k 11 = true) : ev_isAb (k + 6) 1 .int = true := ev_foA (by decide +kernel) h
theorem ev_fo_11_6 {k : Nat} (h : ev_isOb k 11 = true) : ev_isAb (k + 3) 1 .int = true := ev_foA (by decide +kernel) h
theorem ev_fo_11_12 {k : Nat} (h : ev_isOb k 11 = true) : ev_isAb (k + 7) 1 .int = true := ev_foA (by decide +kernel) h
theorem ev_fo_9_1 {k : Nat} (h : ev_isOb k 9 = true) : ev_isOb (k + 3) 11 = true := ev_foO (by decide +kernel) h
theorem ev_fo_9_0 {k : Nat} (h : ev_isOb k 9 = true) : ev_isOb (k + 1) 10 = true := ev_foO (by decide +kernel) h
/-- MendBench$Reader.readCall()Z -/
def jm_107 (Q : Nat)  (S : ev_St) : Option ((Int) × ev_St) := ev_bd (jm_84 Q 1 S) fun x2 s1 => ev_bd (jm_208 Q x2 s1) fun x4 s3 => if x4 = 0 then (some (0, s3)) else (ev_bd (jm_84 Q 2 s3) fun x7 s6 => if x7 = 41 then (ev_b (s6.1 3 8) fun x9 => ev_ck (x9 + 3) fun x10 => ev_b (ev_pI s6 3 8 x10) fun s11 => ev_ck (x2 - 48) fun x12 => ev_bd (jm_88 Q 9 x12 0 s11) fun x14 s13 => ev_if (ev_bl x14) (some (x14, s13))) else (some (0, s6)))
theorem jt_107 (d : Nat) (hd : 4 ≤ d) (Q : Nat)   (S : ev_St) (x : Int) (S' : ev_St) (hJ : jm_107 Q  S = some (x, S')) : ev_Ref d 107 [.ref 3] S (ev_eI x) S' (ev_bl x) := by
  obtain ⟨d, rfl⟩ : ∃ e, d = e + 1 := ⟨d - 1, by omega⟩
  refine ev_ref_of (P := ev_bl) (lv := [(0, .ref 3)]) (by decide +kernel) (by (try simp only [ev_sum, ev_nv_cat]); first | done | rfl) (by (try simp only [lv_args, ev_nv_cat]); first | done | rfl) ?_ x S' hJ
  unfold jm_107
  refine ev_r_aload_n (pc := 0) (k := 0) (v := .ref 3) trivial (by decide +kernel) (by rfl) ?_
  refine ev_r_iconst (pc := 1) (k := 1) (by decide +kernel) ?_
  refine ev_r_virt (pc := 2) (y := 108) (mi := 84) (na := 1) (k := 3) (as := [.int (Int32.ofInt 1)]) (rest := []) (encc := ev_oI) (Q := ev_rng) (fun x S1 h => jt_84 d (by omega) Q 1 (by decide) S x S1 h) (by exact ev_ob_3) (by decide +kernel) (by decide +kernel) (by decide +kernel) (by decide +kernel) rfl (by (try simp only [ev_sum, ev_nv_cat]); first | done | rfl) ?_
  intro x2 s1 hx2
  show ev_w _ _ _ _ _ [.int (Int32.ofInt x2)] _ _ _ _
  refine ev_r_istore_n (pc := 5) (k := 1) (by decide +kernel) (by decide +kernel) rfl ?_
  refine ev_r_iload_n (pc := 6) (k := 1) (v := Int32.ofInt x2) (by decide +kernel) (by exact ev_lk_st1_self) ?_
  refine ev_r_stat (pc := 7) (y := 211) (kind := 5) (mi := 208) (na := 1) (as := [.int (Int32.ofInt x2)]) (rest := []) (encc := ev_oI) (Q := ev_bl) (fun x S1 h => jt_208 d (by omega) Q x2 hx2 s1 x S1 h) (Or.inr (Or.inl rfl)) (by decide +kernel) (by decide +kernel) (by decide +kernel) (by decide +kernel) rfl (by (try simp only [ev_sum, ev_nv_cat]); first | done | rfl) ?_
  intro x4 s3 hx4
  replace hx4 := ev_bl_rng hx4
  show ev_w _ _ _ _ _ [.int (Int32.ofInt x4)] _ _ _ _
  refine ev_r_if (pc := 10) (q := .eq) (o := 13) (t := 23) (c := x4 = 0) (by decide +kernel) (ev_k_eq hx4 ev_rng0) (by decide +kernel) ?_ ?_
  · intro c5
    refine ev_r_iconst (pc := 23) (k := 0) (by decide +kernel) ?_
    exact ev_r_ireturn (pc := 24) (x := 0) (v := Int32.ofInt 0) (ty := .boolean) (by decide : ev_bl 0) (by decide +kernel) (by decide +kernel) (ev_ret_bl (by decide : ev_bl 0)) rfl
  · intro c5
    refine ev_r_aload_n (pc := 13) (k := 0) (v := .ref 3) trivial (by decide +kernel) (by exact (ev_lk_st1 (by rfl) (by decide) rfl)) ?_
    refine ev_r_iconst (pc := 14) (k := 2) (by decide +kernel) ?_
    refine ev_r_virt (pc := 15) (y := 108) (mi := 84) (na := 1) (k := 3) (as := [.int (Int32.ofInt 2)]) (rest := []) (encc := ev_oI) (Q := ev_rng) (fun x S1 h => jt_84 d (by omega) Q 2 (by decide) s3 x S1 h) (by exact ev_ob_3) (by decide +kernel) (by decide +kernel) (by decide +kernel) (by decide +kernel) rfl (by (try simp only [ev_sum, ev_nv_cat]); first | done | rfl) ?_
    intro x7 s6 hx7
    show ev_w _ _ _ _ _ [.int (Int32.ofInt x7)] _ _ _ _
    refine ev_r_bipush (pc := 18) (k := 41) (by decide +kernel) (by decide +kernel) ?_
    refine ev_r_icmp (pc := 20) (q := .eq) (o := 5) (t := 25) (c := x7 = 41) (by decide +kernel) (ev_k_eq hx7 (by decide)) (by decide +kernel) ?_ ?_
    · intro c8
      refine ev_r_aload_n (pc := 25) (k := 0) (v := .ref 3) trivial (by decide +kernel) (by exact (ev_lk_st1 (by rfl) (by decide) rfl)) ?_
      refine ev_r_dup (pc := 26) rfl (by decide +kernel) ?_
      refine ev_r_getI (pc := 27) (y := 63) (ci := 7) (f := 8) (fin := 0) (by decide +kernel) (by decide +kernel) (by exact ev_ob_3) rfl ?_
      intro x9 hx9
      refine ev_r_iconst (pc := 30) (k := 3) (by decide +kernel) ?_
      refine ev_r_iadd (pc := 31) (by decide +kernel) ?_
      intro x10 hx10
      refine ev_r_putI (pc := 32) (y := 63) (ci := 7) (f := 8) hx10 (by decide +kernel) (by decide +kernel) (by exact ev_ob_3) rfl rfl ?_
      intro s11
      refine ev_r_aload_n (pc := 35) (k := 0) (v := .ref 3) trivial (by decide +kernel) (by exact (ev_lk_st1 (by rfl) (by decide) rfl)) ?_
      refine ev_r_bipush (pc := 36) (k := 9) (by decide +kernel) (by decide +kernel) ?_
      refine ev_r_iload_n (pc := 38) (k := 1) (v := Int32.ofInt x2) (by decide +kernel) (by exact ev_lk_st1_self) ?_
      refine ev_r_bipush (pc := 39) (k := 48) (by decide +kernel) (by decide +kernel) ?_
      refine ev_r_isub (pc := 41) (by decide +kernel) ?_
      intro x12 hx12
      refine ev_r_iconst (pc := 42) (k := 0) (by decide +kernel) ?_
      refine ev_r_virt (pc := 43) (y := 155) (mi := 88) (na := 3) (k := 3) (as := [.int (Int32.ofInt 9), .int (Int32.ofInt x12), .int (Int32.ofInt 0)]) (rest := []) (encc := ev_oI) (Q := ev_bl) (fun x S1 h => jt_88 d (by omega) Q 9 x12 0 (by decide) hx12 (by decide) s11 x S1 h) (by exact ev_ob_3) (by decide +kernel) (by decide +kernel) (by decide +kernel) (by decide +kernel) rfl (by (try simp only [ev_sum, ev_nv_cat]); first | done | rfl) ?_
      intro x14 s13 hx14
      replace hx14 := ev_bl_rng hx14
      show ev_w _ _ _ _ _ [.int (Int32.ofInt x14)] _ _ _ _
      refine ev_r_chk ?_
      intro c15
      exact ev_r_ireturn (pc := 46) (x := x14) (v := Int32.ofInt x14) (ty := .boolean) c15 (by decide +kernel) (by decide +kernel) (ev_ret_bl c15) rfl
    · intro c8
      refine ev_r_iconst (pc := 23) (k := 0) (by decide +kernel) ?_
      exact ev_r_ireturn (pc := 24) (x := 0) (v := Int32.ofInt 0) (ty := .boolean) (by decide : ev_bl 0) (by decide +kernel) (by decide +kernel) (ev_ret_bl (by decide : ev_bl 0)) rfl
/-- MendBench$Reader.readBracket()Z -/
def jm_102 (Q : Nat)  (S : ev_St) : Option ((Int) × ev_St) := ev_bd (jm_84 Q 0 S) fun x2 s1 => if x2 ≠ 42 then (ev_bd (jm_84 Q 0 s1) fun x5 s4 => if x5 = 63 then (ev_bd (jm_84 Q 1 s4) fun x8 s7 => if x8 = 33 then (ev_bd (jm_103 Q 2 21 0 s7) fun x11 s10 => ev_if (ev_bl x11) (some (x11, s10))) else (if x8 = 38 then (ev_bd (jm_111 Q  s7) fun x15 s14 => ev_if (ev_bl x15) (some (x15, s14))) else (if x8 = 40 then (ev_bd (jm_106 Q  s7) fun x19 s18 => ev_if (ev_bl x19) (some (x19, s18))) else (if x8 = 45 ∨ x8 = 105 ∨ x8 = 109 ∨ x8 = 115 then (ev_bd (jm_109 Q  s7) fun x23 s22 => ev_if (ev_bl x23) (some (x23, s22))) else (if x8 = 58 then (ev_bd (jm_103 Q 2 17 0 s7) fun x27 s26 => ev_if (ev_bl x27) (some (x27, s26))) else (if x8 = 60 then (ev_bd (jm_105 Q  s7) fun x31 s30 => ev_if (ev_bl x31) (some (x31, s30))) else (if x8 = 61 then (ev_bd (jm_103 Q 2 20 0 s7) fun x35 s34 => ev_if (ev_bl x35) (some (x35, s34))) else (if x8 = 62 then (ev_bd (jm_103 Q 2 19 0 s7) fun x39 s38 => ev_if (ev_bl x39) (some (x39, s38))) else (ev_bd (jm_107 Q  s7) fun x42 s41 => ev_if (ev_bl x42) (some (x42, s41))))))))))) else (ev_bd (jm_104 Q  s4) fun x45 s44 => ev_if (ev_bl x45) (some (x45, s44)))) else (ev_bd (jm_108 Q  s1) fun x48 s47 => ev_if (ev_bl x48) (some (x48, s47)))
theorem jt_102 (d : Nat) (hd : 5 ≤ d) (Q : Nat)   (S : ev_St) (x : Int) (S' : ev_St) (hJ : jm_102 Q  S = some (x, S')) : ev_Ref d 102 [.ref 3] S (ev_eI x) S' (ev_bl x) := by
  obtain ⟨d, rfl⟩ : ∃ e, d = e + 1 := ⟨d - 1, by omega⟩
  refine ev_ref_of (P := ev_bl) (lv := [(0, .ref 3)]) (by decide +kernel) (by (try simp only [ev_sum, ev_nv_cat]); first | done | rfl) (by (try simp only [lv_args, ev_nv_cat]); first | done | rfl) ?_ x S' hJ
  unfold jm_102
  refine ev_r_aload_n (pc := 0) (k := 0) (v := .ref 3) trivial (by decide +kernel) (by rfl) ?_
  refine ev_r_iconst (pc := 1) (k := 0) (by decide +kernel) ?_
  refine ev_r_virt (pc := 2) (y := 108) (mi := 84) (na := 1) (k := 3) (as := [.int (Int32.ofInt 0)]) (rest := []) (encc := ev_oI) (Q := ev_rng) (fun x S1 h => jt_84 d (by omega) Q 0 (by decide) S x S1 h) (by exact ev_ob_3) (by decide +kernel) (by decide +kernel) (by decide +kernel) (by decide +kernel) rfl (by (try simp only [ev_sum, ev_nv_cat]); first | done | rfl) ?_
  intro x2 s1 hx2
  show ev_w _ _ _ _ _ [.int (Int32.ofInt x2)] _ _ _ _
  refine ev_r_bipush (pc := 5) (k := 42) (by decide +kernel) (by decide +kernel) ?_
  refine ev_r_icmp (pc := 7) (q := .ne) (o := 8) (t := 15) (c := x2 ≠ 42) (by decide +kernel) (ev_k_ne hx2 (by decide)) (by decide +kernel) ?_ ?_
  · intro c3
    refine ev_r_aload_n (pc := 15) (k := 0) (v := .ref 3) trivial (by decide +kernel) (by rfl) ?_
    refine ev_r_iconst (pc := 16) (k := 0) (by decide +kernel) ?_
    refine ev_r_virt (pc := 17) (y := 108) (mi := 84) (na := 1) (k := 3) (as := [.int (Int32.ofInt 0)]) (rest := []) (encc := ev_oI) (Q := ev_rng) (fun x S1 h => jt_84 d (by omega) Q 0 (by decide) s1 x S1 h) (by exact ev_ob_3) (by decide +kernel) (by decide +kernel) (by decide +kernel) (by decide +kernel) rfl (by (try simp only [ev_sum, ev_nv_cat]); first | done | rfl) ?_
    intro x5 s4 hx5
    show ev_w _ _ _ _ _ [.int (Int32.ofInt x5)] _ _ _ _
    refine ev_r_bipush (pc := 20) (k := 63) (by decide +kernel) (by decide +kernel) ?_
    refine ev_r_icmp (pc := 22) (q := .eq) (o := 8) (t := 30) (c := x5 = 63) (by decide +kernel) (ev_k_eq hx5 (by decide)) (by decide +kernel) ?_ ?_
    · intro c6
      refine ev_r_aload_n (pc := 30) (k := 0) (v := .ref 3) trivial (by decide +kernel) (by rfl) ?_
      refine ev_r_iconst (pc := 31) (k := 1) (by decide +kernel) ?_
      refine ev_r_virt (pc := 32) (y := 108) (mi := 84) (na := 1) (k := 3) (as := [.int (Int32.ofInt 1)]) (rest := []) (encc := ev_oI) (Q := ev_rng) (fun x S1 h => jt_84 d (by omega) Q 1 (by decide) s4 x S1 h) (by exact ev_ob_3) (by decide +kernel) (by decide +kernel) (by decide +kernel) (by decide +kernel) rfl (by (try simp only [ev_sum, ev_nv_cat]); first | done | rfl) ?_
      intro x8 s7 hx8
      show ev_w _ _ _ _ _ [.int (Int32.ofInt x8)] _ _ _ _
      refine ev_r_ite ?_ ?_
      · intro c9
        refine ev_r_sw (pc := 35) (i := (.lookupswitch 153 #[(33, 124), (38, 143), (40, 138), (45, 148), (58, 97), (60, 133), (61, 115), (62, 106), (105, 148), (109, 148), (115, 148)])) (len := 97) (pc' := 159) (by decide +kernel) (by rw [c9]; rw [ev_pure_lsw]; exact ev_lsw_c (o := 124) (by decide) (by decide +kernel) (by decide +kernel) (by decide +kernel)) ?_
        refine ev_r_aload_n (pc := 159) (k := 0) (v := .ref 3) trivial (by decide +kernel) (by rfl) ?_
        refine ev_r_iconst (pc := 160) (k := 2) (by decide +kernel) ?_
        refine ev_r_bipush (pc := 161) (k := 21) (by decide +kernel) (by decide +kernel) ?_
        refine ev_r_iconst (pc := 163) (k := 0) (by decide +kernel) ?_
        refine ev_r_virt (pc := 164) (y := 256) (mi := 103) (na := 3) (k := 3) (as := [.int (Int32.ofInt 2), .int (Int32.ofInt 21), .int (Int32.ofInt 0)]) (rest := []) (encc := ev_oI) (Q := ev_bl) (fun x S1 h => jt_103 d (by omega) Q 2 21 0 (by decide) (by decide) (by decide) s7 x S1 h) (by exact ev_ob_3) (by decide +kernel) (by decide +kernel) (by decide +kernel) (by decide +kernel) rfl (by (try simp only [ev_sum, ev_nv_cat]); first | done | rfl) ?_
        intro x11 s10 hx11
        replace hx11 := ev_bl_rng hx11
        show ev_w _ _ _ _ _ [.int (Int32.ofInt x11)] _ _ _ _
        refine ev_r_chk ?_
        intro c12
        exact ev_r_ireturn (pc := 167) (x := x11) (v := Int32.ofInt x11) (ty := .boolean) c12 (by decide +kernel) (by decide +kernel) (ev_ret_bl c12) rfl
      · intro c9
        refine ev_r_ite ?_ ?_
        · intro c13
          refine ev_r_sw (pc := 35) (i := (.lookupswitch 153 #[(33, 124), (38, 143), (40, 138), (45, 148), (58, 97), (60, 133), (61, 115), (62, 106), (105, 148), (109, 148), (115, 148)])) (len := 97) (pc' := 178) (by decide +kernel) (by rw [c13]; rw [ev_pure_lsw]; exact ev_lsw_c (o := 143) (by decide) (by decide +kernel) (by decide +kernel) (by decide +kernel)) ?_
          refine ev_r_aload_n (pc := 178) (k := 0) (v := .ref 3) trivial (by decide +kernel) (by rfl) ?_
          refine ev_r_virt (pc := 179) (y := 265) (mi := 111) (na := 0) (k := 3) (as := []) (rest := []) (encc := ev_oI) (Q := ev_bl) (fun x S1 h => jt_111 d (by omega) Q   s7 x S1 h) (by exact ev_ob_3) (by decide +kernel) (by decide +kernel) (by decide +kernel) (by decide +kernel) rfl (by (try simp only [ev_sum, ev_nv_cat]); first | done | rfl) ?_
          intro x15 s14 hx15
          replace hx15 := ev_bl_rng hx15
          show ev_w _ _ _ _ _ [.int (Int32.ofInt x15)] _ _ _ _
          refine ev_r_chk ?_
          intro c16
          exact ev_r_ireturn (pc := 182) (x := x15) (v := Int32.ofInt x15) (ty := .boolean) c16 (by decide +kernel) (by decide +kernel) (ev_ret_bl c16) rfl
        · intro c13
          refine ev_r_ite ?_ ?_
          · intro c17
            refine ev_r_sw (pc := 35) (i := (.lookupswitch 153 #[(33, 124), (38, 143), (40, 138), (45, 148), (58, 97), (60, 133), (61, 115), (62, 106), (105, 148), (109, 148), (115, 148)])) (len := 97) (pc' := 173) (by decide +kernel) (by rw [c17]; rw [ev_pure_lsw]; exact ev_lsw_c (o := 138) (by decide) (by decide +kernel) (by decide +kernel) (by decide +kernel)) ?_
            refine ev_r_aload_n (pc := 173) (k := 0) (v := .ref 3) trivial (by decide +kernel) (by rfl) ?_
            refine ev_r_virt (pc := 174) (y := 262) (mi := 106) (na := 0) (k := 3) (as := []) (rest := []) (encc := ev_oI) (Q := ev_bl) (fun x S1 h => jt_106 d (by omega) Q   s7 x S1 h) (by exact ev_ob_3) (by decide +kernel) (by decide +kernel) (by decide +kernel) (by decide +kernel) rfl (by (try simp only [ev_sum, ev_nv_cat]); first | done | rfl) ?_
            intro x19 s18 hx19
            replace hx19 := ev_bl_rng hx19
            show ev_w _ _ _ _ _ [.int (Int32.ofInt x19)] _ _ _ _
            refine ev_r_chk ?_
            intro c20
            exact ev_r_ireturn (pc := 177) (x := x19) (v := Int32.ofInt x19) (ty := .boolean) c20 (by decide +kernel) (by decide +kernel) (ev_ret_bl c20) rfl
          · intro c17
            refine ev_r_ite ?_ ?_
            · intro c21
              refine ev_r_sw (pc := 35) (i := (.lookupswitch 153 #[(33, 124), (38, 143), (40, 138), (45, 148), (58, 97), (60, 133), (61, 115), (62, 106), (105, 148), (109, 148), (115, 148)])) (len := 97) (pc' := 183) (by decide +kernel) (by rcases c21 with e | e | e | e <;> (rw [e]; rw [ev_pure_lsw]; exact ev_lsw_c (o := 148) (by decide) (by decide +kernel) (by decide +kernel) (by decide +kernel))) ?_
              refine ev_r_aload_n (pc := 183) (k := 0) (v := .ref 3) trivial (by decide +kernel) (by rfl) ?_
              refine ev_r_virt (pc := 184) (y := 268) (mi := 109) (na := 0) (k := 3) (as := []) (rest := []) (encc := ev_oI) (Q := ev_bl) (fun x S1 h => jt_109 d (by omega) Q   s7 x S1 h) (by exact ev_ob_3) (by decide +kernel) (by decide +kernel) (by decide +kernel) (by decide +kernel) rfl (by (try simp only [ev_sum, ev_nv_cat]); first | done | rfl) ?_
              intro x23 s22 hx23
              replace hx23 := ev_bl_rng hx23
              show ev_w _ _ _ _ _ [.int (Int32.ofInt x23)] _ _ _ _
              refine ev_r_chk ?_
              intro c24
              exact ev_r_ireturn (pc := 187) (x := x23) (v := Int32.ofInt x23) (ty := .boolean) c24 (by decide +kernel) (by decide +kernel) (ev_ret_bl c24) rfl
            · intro c21
              refine ev_r_ite ?_ ?_
              · intro c25
                refine ev_r_sw (pc := 35) (i := (.lookupswitch 153 #[(33, 124), (38, 143), (40, 138), (45, 148), (58, 97), (60, 133), (61, 115), (62, 106), (105, 148), (109, 148), (115, 148)])) (len := 97) (pc' := 132) (by decide +kernel) (by rw [c25]; rw [ev_pure_lsw]; exact ev_lsw_c (o := 97) (by decide) (by decide +kernel) (by decide +kernel) (by decide +kernel)) ?_
                refine ev_r_aload_n (pc := 132) (k := 0) (v := .ref 3) trivial (by decide +kernel) (by rfl) ?_
                refine ev_r_iconst (pc := 133) (k := 2) (by decide +kernel) ?_
                refine ev_r_bipush (pc := 134) (k := 17) (by decide +kernel) (by decide +kernel) ?_
                refine ev_r_iconst (pc := 136) (k := 0) (by decide +kernel) ?_
                refine ev_r_virt (pc := 137) (y := 256) (mi := 103) (na := 3) (k := 3) (as := [.int (Int32.ofInt 2), .int (Int32.ofInt 17), .int (Int32.ofInt 0)]) (rest := []) (encc := ev_oI) (Q := ev_bl) (fun x S1 h => jt_103 d (by omega) Q 2 17 0 (by decide) (by decide) (by decide) s7 x S1 h) (by exact ev_ob_3) (by decide +kernel) (by decide +kernel) (by decide +kernel) (by decide +kernel) rfl (by (try simp only [ev_sum, ev_nv_cat]); first | done | rfl) ?_
                intro x27 s26 hx27
                replace hx27 := ev_bl_rng hx27
                show ev_w _ _ _ _ _ [.int (Int32.ofInt x27)] _ _ _ _
                refine ev_r_chk ?_
                intro c28
                exact ev_r_ireturn (pc := 140) (x := x27) (v := Int32.ofInt x27) (ty := .boolean) c28 (by decide +kernel) (by decide +kernel) (ev_ret_bl c28) rfl
              · intro c25
                refine ev_r_ite ?_ ?_
                · intro c29
                  refine ev_r_sw (pc := 35) (i := (.lookupswitch 153 #[(33, 124), (38, 143), (40, 138), (45, 148), (58, 97), (60, 133), (61, 115), (62, 106), (105, 148), (109, 148), (115, 148)])) (len := 97) (pc' := 168) (by decide +kernel) (by rw [c29]; rw [ev_pure_lsw]; exact ev_lsw_c (o := 133) (by decide) (by decide +kernel) (by decide +kernel) (by decide +kernel)) ?_
                  refine ev_r_aload_n (pc := 168) (k := 0) (v := .ref 3) trivial (by decide +kernel) (by rfl) ?_
                  refine ev_r_virt (pc := 169) (y := 259) (mi := 105) (na := 0) (k := 3) (as := []) (rest := []) (encc := ev_oI) (Q := ev_bl) (fun x S1 h => jt_105 d (by omega) Q   s7 x S1 h) (by exact ev_ob_3) (by decide +kernel) (by decide +kernel) (by decide +kernel) (by decide +kernel) rfl (by (try simp only [ev_sum, ev_nv_cat]); first | done | rfl) ?_
                  intro x31 s30 hx31
                  replace hx31 := ev_bl_rng hx31
                  show ev_w _ _ _ _ _ [.int (Int32.ofInt x31)] _ _ _ _
                  refine ev_r_chk ?_
                  intro c32
                  exact ev_r_ireturn (pc := 172) (x := x31) (v := Int32.ofInt x31) (ty := .boolean) c32 (by decide +kernel) (by decide +kernel) (ev_ret_bl c32) rfl
                · intro c29
                  refine ev_r_ite ?_ ?_
                  · intro c33
                    refine ev_r_sw (pc := 35) (i := (.lookupswitch 153 #[(33, 124), (38, 143), (40, 138), (45, 148), (58, 97), (60, 133), (61, 115), (62, 106), (105, 148), (109, 148), (115, 148)])) (len := 97) (pc' := 150) (by decide +kernel) (by rw [c33]; rw [ev_pure_lsw]; exact ev_lsw_c (o := 115) (by decide) (by decide +kernel) (by decide +kernel) (by decide +kernel)) ?_
                    refine ev_r_aload_n (pc := 150) (k := 0) (v := .ref 3) trivial (by decide +kernel) (by rfl) ?_
                    refine ev_r_iconst (pc := 151) (k := 2) (by decide +kernel) ?_
                    refine ev_r_bipush (pc := 152) (k := 20) (by decide +kernel) (by decide +kernel) ?_
                    refine ev_r_iconst (pc := 154) (k := 0) (by decide +kernel) ?_
                    refine ev_r_virt (pc := 155) (y := 256) (mi := 103) (na := 3) (k := 3) (as := [.int (Int32.ofInt 2), .int (Int32.ofInt 20), .int (Int32.ofInt 0)]) (rest := []) (encc := ev_oI) (Q := ev_bl) (fun x S1 h => jt_103 d (by omega) Q 2 20 0 (by decide) (by decide) (by decide) s7 x S1 h) (by exact ev_ob_3) (by decide +kernel) (by decide +kernel) (by decide +kernel) (by decide +kernel) rfl (by (try simp only [ev_sum, ev_nv_cat]); first | done | rfl) ?_
                    intro x35 s34 hx35
                    replace hx35 := ev_bl_rng hx35
                    show ev_w _ _ _ _ _ [.int (Int32.ofInt x35)] _ _ _ _
                    refine ev_r_chk ?_
                    intro c36
                    exact ev_r_ireturn (pc := 158) (x := x35) (v := Int32.ofInt x35) (ty := .boolean) c36 (by decide +kernel) (by decide +kernel) (ev_ret_bl c36) rfl
                  · intro c33
                    refine ev_r_ite ?_ ?_
                    · intro c37
                      refine ev_r_sw (pc := 35) (i := (.lookupswitch 153 #[(33, 124), (38, 143), (40, 138), (45, 148), (58, 97), (60, 133), (61, 115), (62, 106), (105, 148), (109, 148), (115, 148)])) (len := 97) (pc' := 141) (by decide +kernel) (by rw [c37]; rw [ev_pure_lsw]; exact ev_lsw_c (o := 106) (by decide) (by decide +kernel) (by decide +kernel) (by decide +kernel)) ?_
                      refine ev_r_aload_n (pc := 141) (k := 0) (v := .ref 3) trivial (by decide +kernel) (by rfl) ?_
                      refine ev_r_iconst (pc := 142) (k := 2) (by decide +kernel) ?_
                      refine ev_r_bipush (pc := 143) (k := 19) (by decide +kernel) (by decide +kernel) ?_
                      refine ev_r_iconst (pc := 145) (k := 0) (by decide +kernel) ?_
                      refine ev_r_virt (pc := 146) (y := 256) (mi := 103) (na := 3) (k := 3) (as := [.int (Int32.ofInt 2), .int (Int32.ofInt 19), .int (Int32.ofInt 0)]) (rest := []) (encc := ev_oI) (Q := ev_bl) (fun x S1 h => jt_103 d (by omega) Q 2 19 0 (by decide) (by decide) (by decide) s7 x S1 h) (by exact ev_ob_3) (by decide +kernel) (by decide +kernel) (by decide +kernel) (by decide +kernel) rfl (by (try simp only [ev_sum, ev_nv_cat]); first | done | rfl) ?_
                      intro x39 s38 hx39
                      replace hx39 := ev_bl_rng hx39
                      show ev_w _ _ _ _ _ [.int (Int32.ofInt x39)] _ _ _ _
                      refine ev_r_chk ?_
                      intro c40
                      exact ev_r_ireturn (pc := 149) (x := x39) (v := Int32.ofInt x39) (ty := .boolean) c40 (by decide +kernel) (by decide +kernel) (ev_ret_bl c40) rfl
                    · intro c37
                      refine ev_r_sw (pc := 35) (i := (.lookupswitch 153 #[(33, 124), (38, 143), (40, 138), (45, 148), (58, 97), (60, 133), (61, 115), (62, 106), (105, 148), (109, 148), (115, 148)])) (len := 97) (pc' := 188) (by decide +kernel) (by rw [ev_pure_lsw]; exact ev_lsw_c (o := 153) hx8 (by decide +kernel) (by show Op.lookupswitch.offset [(33, 124), (38, 143), (40, 138), (45, 148), (58, 97), (60, 133), (61, 115), (62, 106), (105, 148), (109, 148), (115, 148)] 153 x8 = 153; rw [Op.lookupswitch.offset_cons, if_neg (by omega), Op.lookupswitch.offset_cons, if_neg (by omega), Op.lookupswitch.offset_cons, if_neg (by omega), Op.lookupswitch.offset_cons, if_neg (by omega), Op.lookupswitch.offset_cons, if_neg (by omega), Op.lookupswitch.offset_cons, if_neg (by omega), Op.lookupswitch.offset_cons, if_neg (by omega), Op.lookupswitch.offset_cons, if_neg (by omega), Op.lookupswitch.offset_cons, if_neg (by omega), Op.lookupswitch.offset_cons, if_neg (by omega), Op.lookupswitch.offset_cons, if_neg (by omega), Op.lookupswitch.offset_nil]) (by decide +kernel)) ?_
                      refine ev_r_aload_n (pc := 188) (k := 0) (v := .ref 3) trivial (by decide +kernel) (by rfl) ?_
                      refine ev_r_virt (pc := 189) (y := 271) (mi := 107) (na := 0) (k := 3) (as := []) (rest := []) (encc := ev_oI) (Q := ev_bl) (fun x S1 h => jt_107 d (by omega) Q   s7 x S1 h) (by exact ev_ob_3) (by decide +kernel) (by decide +kernel) (by decide +kernel) (by decide +kernel) rfl (by (try simp only [ev_sum, ev_nv_cat]); first | done | rfl) ?_
                      intro x42 s41 hx42
                      replace hx42 := ev_bl_rng hx42
                      show ev_w _ _ _ _ _ [.int (Int32.ofInt x42)] _ _ _ _
                      refine ev_r_chk ?_
                      intro c43
                      exact ev_r_ireturn (pc := 192) (x := x42) (v := Int32.ofInt x42) (ty := .boolean) c43 (by decide +kernel) (by decide +kernel) (ev_ret_bl c43) rfl
    · intro c6
      refine ev_r_aload_n (pc := 25) (k := 0) (v := .ref 3) trivial (by decide +kernel) (by rfl) ?_
      refine ev_r_virt (pc := 26) (y := 253) (mi := 104) (na := 0) (k := 3) (as := []) (rest := []) (encc := ev_oI) (Q := ev_bl) (fun x S1 h => jt_104 d (by omega) Q   s4 x S1 h) (by exact ev_ob_3) (by decide +kernel) (by decide +kernel) (by decide +kernel) (by decide +kernel) rfl (by (try simp only [ev_sum, ev_nv_cat]); first | done | rfl) ?_
      intro x45 s44 hx45
      replace hx45 := ev_bl_rng hx45
      show ev_w _ _ _ _ _ [.int (Int32.ofInt x45)] _ _ _ _
      refine ev_r_chk ?_
      intro c46
      exact ev_r_ireturn (pc := 29) (x := x45) (v := Int32.ofInt x45) (ty := .boolean) c46 (by decide +kernel) (by decide +kernel) (ev_ret_bl c46) rfl
  · intro c3
    refine ev_r_aload_n (pc := 10) (k := 0) (v := .ref 3) trivial (by decide +kernel) (by rfl) ?_
    refine ev_r_virt (pc := 11) (y := 250) (mi := 108) (na := 0) (k := 3) (as := []) (rest := []) (encc := ev_oI) (Q := ev_bl) (fun x S1 h => jt_108 d (by omega) Q   s1 x S1 h) (by exact ev_ob_3) (by decide +kernel) (by decide +kernel) (by decide +kernel) (by decide +kernel) rfl (by (try simp only [ev_sum, ev_nv_cat]); first | done | rfl) ?_
    intro x48 s47 hx48
    replace hx48 := ev_bl_rng hx48
    show ev_w _ _ _ _ _ [.int (Int32.ofInt x48)] _ _ _ _
    refine ev_r_chk ?_
    intro c49
    exact ev_r_ireturn (pc := 14) (x := x48) (v := Int32.ofInt x48) (ty := .boolean) c49 (by decide +kernel) (by decide +kernel) (ev_ret_bl c49) rfl
/-- MendBench$Reader.readBar()Z -/
def jm_101 (Q : Nat)  (S : ev_St) : Option ((Int) × ev_St) := ev_b (S.1 3 10) fun x1 => if x1 < 0 then (some (0, S)) else (ev_b (S.1 3 10) fun x3 => if 152 ≤ x3 then (some (0, S)) else (ev_bd (jm_87 Q  S) fun x6 s5 => if x6 ≠ 0 then (ev_b (s5.1 3 10) fun x8 => ev_if ((0 : Int) ≤ x8 ∧ x8 < (152 : Int)) (ev_b (17 + 1 * Int.toNat x8) fun _ => ev_b (s5.1 ((17 + 1 * Int.toNat x8)) 0) fun x11 => ev_jn (fun (r12 : Nat) (s16 : ev_St) => ev_bd (jm_99 Q ((r12 + 1)) s16) fun x18 s17 => ev_if (ev_bl x18) (some (x18, s17))) fun K56 => if x11 ≠ 8 then (K56 ((17 + 1 * Int.toNat x8)) s5) else (ev_b (s5.1 ((17 + 1 * Int.toNat x8)) 4) fun x21 => if x21 < 0 then (K56 ((17 + 1 * Int.toNat x8)) s5) else (some (0, s5))))) else (some (0, s5))))
theorem jt_101 (d : Nat) (hd : 3 ≤ d) (Q : Nat)   (S : ev_St) (x : Int) (S' : ev_St) (hJ : jm_101 Q  S = some (x, S')) : ev_Ref d 101 [.ref 3] S (ev_eI x) S' (ev_bl x) := by
  obtain ⟨d, rfl⟩ : ∃ e, d = e + 1 := ⟨d - 1, by omega⟩
  refine ev_ref_of (P := ev_bl) (lv := [(0, .ref 3)]) (by decide +kernel) (by (try simp only [ev_sum, ev_nv_cat]); first | done | rfl) (by (try simp only [lv_args, ev_nv_cat]); first | done | rfl) ?_ x S' hJ
  unfold jm_101
  refine ev_r_aload_n (pc := 0) (k := 0) (v := .ref 3) trivial (by decide +kernel) (by rfl) ?_
  refine ev_r_getI (pc := 1) (y := 69) (ci := 7) (f := 10) (fin := 0) (by decide +kernel) (by decide +kernel) (by exact ev_ob_3) rfl ?_
  intro x1 hx1
  refine ev_r_if (pc := 4) (q := .lt) (o := 22) (t := 26) (c := x1 < 0) (by decide +kernel) (ev_k_lt hx1 ev_rng0) (by decide +kernel) ?_ ?_
  · intro c2
    refine ev_r_iconst (pc := 26) (k := 0) (by decide +kernel) ?_
    exact ev_r_ireturn (pc := 27) (x := 0) (v := Int32.ofInt 0) (ty := .boolean) (by decide : ev_bl 0) (by decide +kernel) (by decide +kernel) (ev_ret_bl (by decide : ev_bl 0)) rfl
  · intro c2
    refine ev_r_aload_n (pc := 7) (k := 0) (v := .ref 3) trivial (by decide +kernel) (by rfl) ?_
    refine ev_r_getI (pc := 8) (y := 69) (ci := 7) (f := 10) (fin := 0) (by decide +kernel) (by decide +kernel) (by exact ev_ob_3) rfl ?_
    intro x3 hx3
    refine ev_r_aload_n (pc := 11) (k := 0) (v := .ref 3) trivial (by decide +kernel) (by rfl) ?_
    refine ev_r_getC (pc := 12) (y := 30) (ci := 7) (f := 3) (fin := 1) (k' := 14) (by decide +kernel) (by decide +kernel) (by exact ev_ob_3) rfl rfl ?_
    refine ev_r_alenC (pc := 15) (kd := 3) (N := 152) (t := (.object "MendBench$Open", 17, 1)) (Or.inl rfl) (by decide +kernel) (by decide +kernel) ?_
    refine ev_r_icmp (pc := 16) (q := .ge) (o := 10) (t := 26) (c := 152 ≤ x3) (by decide +kernel) (ev_k_ge hx3 (by decide)) (by decide +kernel) ?_ ?_
    · intro c4
      refine ev_r_iconst (pc := 26) (k := 0) (by decide +kernel) ?_
      exact ev_r_ireturn (pc := 27) (x := 0) (v := Int32.ofInt 0) (ty := .boolean) (by decide : ev_bl 0) (by decide +kernel) (by decide +kernel) (ev_ret_bl (by decide : ev_bl 0)) rfl
    · intro c4
      refine ev_r_aload_n (pc := 19) (k := 0) (v := .ref 3) trivial (by decide +kernel) (by rfl) ?_
      refine ev_r_virt (pc := 20) (y := 162) (mi := 87) (na := 0) (k := 3) (as := []) (rest := []) (encc := ev_oI) (Q := ev_bl) (fun x S1 h => jt_87 d (by omega) Q   S x S1 h) (by exact ev_ob_3) (by decide +kernel) (by decide +kernel) (by decide +kernel) (by decide +kernel) rfl (by (try simp only [ev_sum, ev_nv_cat]); first | done | rfl) ?_
      intro x6 s5 hx6
      replace hx6 := ev_bl_rng hx6
      show ev_w _ _ _ _ _ [.int (Int32.ofInt x6)] _ _ _ _
      refine ev_r_if (pc := 23) (q := .ne) (o := 5) (t := 28) (c := x6 ≠ 0) (by decide +kernel) (ev_k_ne hx6 ev_rng0) (by decide +kernel) ?_ ?_
      · intro c7
        refine ev_r_aload_n (pc := 28) (k := 0) (v := .ref 3) trivial (by decide +kernel) (by rfl) ?_
        refine ev_r_getC (pc := 29) (y := 30) (ci := 7) (f := 3) (fin := 1) (k' := 14) (by decide +kernel) (by decide +kernel) (by exact ev_ob_3) rfl rfl ?_
        refine ev_r_aload_n (pc := 32) (k := 0) (v := .ref 3) trivial (by decide +kernel) (by rfl) ?_
        refine ev_r_getI (pc := 33) (y := 69) (ci := 7) (f := 10) (fin := 0) (by decide +kernel) (by decide +kernel) (by exact ev_ob_3) rfl ?_
        intro x8 hx8
        refine ev_r_aald (pc := 36) (N := 152) (b := 17) (c := 1) (C := "MendBench$Open") hx8 (by decide +kernel) (by decide +kernel) ?_
        intro c9
        refine ev_r_astore_n (pc := 37) (k := 1) trivial (by decide +kernel) (by decide +kernel) rfl ?_
        refine ev_r_aload_n (pc := 38) (k := 1) (v := .ref ((17 + 1 * Int.toNat x8))) trivial (by decide +kernel) (by exact ev_lk_st1_self) ?_
        refine ev_r_getI (pc := 39) (y := 230) (ci := 4) (f := 0) (fin := 0) (by decide +kernel) (by decide +kernel) (by exact (ev_el_14 c9)) rfl ?_
        intro x11 hx11
        refine ev_r_bipush (pc := 42) (k := 8) (by decide +kernel) (by decide +kernel) ?_
        refine ev_r_jn (Q := fun K => ∀ (r12 : Nat) (hr12 : ev_isOb r12 4 = true), ∀ (s16 : ev_St) (w13 : List (Nat × Value)), ev_lk w13 0 = some (.ref 3) → ev_lk w13 1 = some (.ref r12) → ev_w none (ev_Mof 101) d 56 w13 [] s16 (K r12 s16) ev_eI ev_bl) ?_ ?_
        · intro r12 hr12 s16 w13 e14 e15
          refine ev_r_aload_n (pc := 56) (k := 0) (v := .ref 3) trivial (by decide +kernel) (by exact e14) ?_
          refine ev_r_aload_n (pc := 57) (k := 1) (v := .ref r12) trivial (by decide +kernel) (by exact e15) ?_
          refine ev_r_virt (pc := 58) (y := 243) (mi := 99) (na := 1) (k := 3) (as := [ev_nv ((r12 + 1))]) (rest := []) (encc := ev_oI) (Q := ev_bl) (fun x S1 h => jt_99 d (by omega) Q ((r12 + 1)) (by exact (Or.inr hr12)) s16 x S1 h) (by exact ev_ob_3) (by decide +kernel) (by decide +kernel) (by decide +kernel) (by decide +kernel) rfl (by (try simp only [ev_sum, ev_nv_cat]); first | done | rfl) ?_
          intro x18 s17 hx18
          replace hx18 := ev_bl_rng hx18
          show ev_w _ _ _ _ _ [.int (Int32.ofInt x18)] _ _ _ _
          refine ev_r_chk ?_
          intro c19
          exact ev_r_ireturn (pc := 61) (x := x18) (v := Int32.ofInt x18) (ty := .boolean) c19 (by decide +kernel) (by decide +kernel) (ev_ret_bl c19) rfl
        · intro K56 hK56
          refine ev_r_icmp (pc := 44) (q := .ne) (o := 12) (t := 56) (c := x11 ≠ 8) (by decide +kernel) (ev_k_ne hx11 (by decide)) (by decide +kernel) ?_ ?_
          · intro c20
            exact hK56 ((17 + 1 * Int.toNat x8)) (ev_el_14 c9) s5 _ (by exact (ev_lk_st1 (by rfl) (by decide) rfl)) (by exact ev_lk_st1_self)
          · intro c20
            refine ev_r_aload_n (pc := 47) (k := 1) (v := .ref ((17 + 1 * Int.toNat x8))) trivial (by decide +kernel) (by exact ev_lk_st1_self) ?_
            refine ev_r_getI (pc := 48) (y := 237) (ci := 4) (f := 4) (fin := 0) (by decide +kernel) (by decide +kernel) (by exact (ev_el_14 c9)) rfl ?_
            intro x21 hx21
            refine ev_r_if (pc := 51) (q := .lt) (o := 5) (t := 56) (c := x21 < 0) (by decide +kernel) (ev_k_lt hx21 ev_rng0) (by decide +kernel) ?_ ?_
            · intro c22
              exact hK56 ((17 + 1 * Int.toNat x8)) (ev_el_14 c9) s5 _ (by exact (ev_lk_st1 (by rfl) (by decide) rfl)) (by exact ev_lk_st1_self)
            · intro c22
              refine ev_r_iconst (pc := 54) (k := 0) (by decide +kernel) ?_
              exact ev_r_ireturn (pc := 55) (x := 0) (v := Int32.ofInt 0) (ty := .boolean) (by decide : ev_bl 0) (by decide +kernel) (by decide +kernel) (ev_ret_bl (by decide : ev_bl 0)) rfl
      · intro c7
        refine ev_r_iconst (pc := 26) (k := 0) (by decide +kernel) ?_
        exact ev_r_ireturn (pc := 27) (x := 0) (v := Int32.ofInt 0) (ty := .boolean) (by decide : ev_bl 0) (by decide +kernel) (by decide +kernel) (ev_ret_bl (by decide : ev_bl 0)) rfl
/-- MendBench$Reader.enclose(I)I -/
def jm_93 (Q : Nat) (a0 : Int) (S : ev_St) : Option ((Int) × ev_St) := ev_b (S.2.2.1 3 9) fun r1 => ev_if (r1 ≠ 0) (ev_bd (jm_58 Q ((r1 - 1)) 15 0 0 S) fun x4 s3 => ev_b (s3.2.2.1 3 9) fun r5 => ev_if (r5 ≠ 0) (ev_bd (jm_58 Q ((r5 - 1)) 19 0 0 s3) fun x8 s7 => ev_b (s7.2.2.1 3 9) fun r9 => ev_if (r9 ≠ 0) (ev_bd (jm_59 Q ((r9 - 1)) x4 s7) fun x12 s11 => if x12 = 0 then (some (x8, s11)) else (ev_b (s11.2.2.1 3 9) fun r14 => ev_if (r14 ≠ 0) (ev_bd (jm_59 Q ((r14 - 1)) x8 s11) fun x17 s16 => if x17 = 0 then (some (x8, s16)) else (ev_b (s16.2.2.1 3 9) fun r19 => ev_if (r19 ≠ 0) (ev_if ((0 : Int) ≤ x4 ∧ x4 < (ev_aln (((r19 - 1) + 4)) : Int)) (ev_b (ev_pI s16 (((r19 - 1) + 4)) (Int.toNat x4) a0) fun s21 => ev_b (s21.2.2.1 3 9) fun r22 => ev_if (r22 ≠ 0) (ev_if ((0 : Int) ≤ x8 ∧ x8 < (ev_aln (((r22 - 1) + 4)) : Int)) (ev_b (ev_pI s21 (((r22 - 1) + 4)) (Int.toNat x8) x4) fun s24 => some (x8, s24)))))))))))
theorem jt_93 (d : Nat) (hd : 2 ≤ d) (Q : Nat) (a0 : Int) (ha0 : ev_rng a0) (S : ev_St) (x : Int) (S' : ev_St) (hJ : jm_93 Q a0 S = some (x, S')) : ev_Ref d 93 [.ref 3, .int (Int32.ofInt a0)] S (ev_eI x) S' (ev_rng x) := by
  obtain ⟨d, rfl⟩ : ∃ e, d = e + 1 := ⟨d - 1, by omega⟩
  refine ev_ref_of (P := ev_rng) (lv := [(0, .ref 3), (1, .int (Int32.ofInt a0))]) (by decide +kernel) (by (try simp only [ev_sum, ev_nv_cat]); first | done | rfl) (by (try simp only [lv_args, ev_nv_cat]); first | done | rfl) ?_ x S' hJ
  unfold jm_93
  refine ev_r_aload_n (pc := 0) (k := 0) (v := .ref 3) trivial (by decide +kernel) (by rfl) ?_
  refine ev_r_getR (pc := 1) (y := 55) (ci := 7) (f := 9) (fin := 0) (t := 5) (by decide +kernel) (by decide +kernel) (by exact ev_ob_3) rfl rfl ?_
  intro r1 hr1
  have hr1 : r1 = 0 ∨ ev_isOb (r1 - 1) 5 = true := hr1
  refine ev_r_bipush (pc := 4) (k := 15) (by decide +kernel) (by decide +kernel) ?_
  refine ev_r_iconst (pc := 6) (k := 0) (by decide +kernel) ?_
  refine ev_r_iconst (pc := 7) (k := 0) (by decide +kernel) ?_
  refine ev_r_chk ?_
  intro c2
  refine ev_r_dr (r := r1) (fun v => [.int (Int32.ofInt 0), .int (Int32.ofInt 0), .int (Int32.ofInt 15), v]) c2 ?_
  refine ev_r_virt (pc := 8) (y := 168) (mi := 58) (na := 3) (k := (r1 - 1)) (as := [.int (Int32.ofInt 15), .int (Int32.ofInt 0), .int (Int32.ofInt 0)]) (rest := []) (encc := ev_oI) (Q := ev_rng) (fun x S1 h => jt_58 d (by omega) Q ((r1 - 1)) 15 0 0 (hr1.resolve_left c2) (by decide) (by decide) (by decide) S x S1 h) (by exact (hr1.resolve_left c2)) (by decide +kernel) (by decide +kernel) (by decide +kernel) (by decide +kernel) rfl (by (try simp only [ev_sum, ev_nv_cat]); first | done | rfl) ?_
  intro x4 s3 hx4
  show ev_w _ _ _ _ _ [.int (Int32.ofInt x4)] _ _ _ _
  refine ev_r_istore_n (pc := 11) (k := 2) (by decide +kernel) (by decide +kernel) rfl ?_
  refine ev_r_aload_n (pc := 12) (k := 0) (v := .ref 3) trivial (by decide +kernel) (by exact (ev_l1 (by rfl) (by decide) (by decide))) ?_
  refine ev_r_getR (pc := 13) (y := 55) (ci := 7) (f := 9) (fin := 0) (t := 5) (by decide +kernel) (by decide +kernel) (by exact ev_ob_3) rfl rfl ?_
  intro r5 hr5
  have hr5 : r5 = 0 ∨ ev_isOb (r5 - 1) 5 = true := hr5
  refine ev_r_bipush (pc := 16) (k := 19) (by decide +kernel) (by decide +kernel) ?_
  refine ev_r_iconst (pc := 18) (k := 0) (by decide +kernel) ?_
  refine ev_r_iconst (pc := 19) (k := 0) (by decide +kernel) ?_
  refine ev_r_chk ?_
  intro c6
  refine ev_r_dr (r := r5) (fun v => [.int (Int32.ofInt 0), .int (Int32.ofInt 0), .int (Int32.ofInt 19), v]) c6 ?_
  refine ev_r_virt (pc := 20) (y := 168) (mi := 58) (na := 3) (k := (r5 - 1)) (as := [.int (Int32.ofInt 19), .int (Int32.ofInt 0), .int (Int32.ofInt 0)]) (rest := []) (encc := ev_oI) (Q := ev_rng) (fun x S1 h => jt_58 d (by omega) Q ((r5 - 1)) 19 0 0 (hr5.resolve_left c6) (by decide) (by decide) (by decide) s3 x S1 h) (by exact (hr5.resolve_left c6)) (by decide +kernel) (by decide +kernel) (by decide +kernel) (by decide +kernel) rfl (by (try simp only [ev_sum, ev_nv_cat]); first | done | rfl) ?_
  intro x8 s7 hx8
  show ev_w _ _ _ _ _ [.int (Int32.ofInt x8)] _ _ _ _
  refine ev_r_istore_n (pc := 23) (k := 3) (by decide +kernel) (by decide +kernel) rfl ?_
  refine ev_r_aload_n (pc := 24) (k := 0) (v := .ref 3) trivial (by decide +kernel) (by exact (ev_l1 (ev_l1 (by rfl) (by decide) (by decide)) (by decide) (by decide))) ?_
  refine ev_r_getR (pc := 25) (y := 55) (ci := 7) (f := 9) (fin := 0) (t := 5) (by decide +kernel) (by decide +kernel) (by exact ev_ob_3) rfl rfl ?_
  intro r9 hr9
  have hr9 : r9 = 0 ∨ ev_isOb (r9 - 1) 5 = true := hr9
  refine ev_r_iload_n (pc := 28) (k := 2) (v := Int32.ofInt x4) (by decide +kernel) (by exact (ev_lk_st1 ev_lk_st1_self (by decide) rfl)) ?_
  refine ev_r_chk ?_
  intro c10
  refine ev_r_dr (r := r9) (fun v => [.int (Int32.ofInt x4), v]) c10 ?_
  refine ev_r_virt (pc := 29) (y := 179) (mi := 59) (na := 1) (k := (r9 - 1)) (as := [.int (Int32.ofInt x4)]) (rest := []) (encc := ev_oI) (Q := ev_bl) (fun x S1 h => jt_59 d (by omega) Q ((r9 - 1)) x4 (hr9.resolve_left c10) hx4 s7 x S1 h) (by exact (hr9.resolve_left c10)) (by decide +kernel) (by decide +kernel) (by decide +kernel) (by decide +kernel) rfl (by (try simp only [ev_sum, ev_nv_cat]); first | done | rfl) ?_
  intro x12 s11 hx12
  replace hx12 := ev_bl_rng hx12
  show ev_w _ _ _ _ _ [.int (Int32.ofInt x12)] _ _ _ _
  refine ev_r_if (pc := 32) (q := .eq) (o := 34) (t := 66) (c := x12 = 0) (by decide +kernel) (ev_k_eq hx12 ev_rng0) (by decide +kernel) ?_ ?_
  · intro c13
    refine ev_r_iload_n (pc := 66) (k := 3) (v := Int32.ofInt x8) (by decide +kernel) (by exact ev_lk_st1_self) ?_
    exact ev_r_ireturn (pc := 67) (x := x8) (v := Int32.ofInt x8) (ty := .int) hx8 (by decide +kernel) (by decide +kernel) rfl rfl
  · intro c13
    refine ev_r_aload_n (pc := 35) (k := 0) (v := .ref 3) trivial (by decide +kernel) (by exact (ev_l1 (ev_l1 (by rfl) (by decide) (by decide)) (by decide) (by decide))) ?_
    refine ev_r_getR (pc := 36) (y := 55) (ci := 7) (f := 9) (fin := 0) (t := 5) (by decide +kernel) (by decide +kernel) (by exact ev_ob_3) rfl rfl ?_
    intro r14 hr14
    have hr14 : r14 = 0 ∨ ev_isOb (r14 - 1) 5 = true := hr14
    refine ev_r_iload_n (pc := 39) (k := 3) (v := Int32.ofInt x8) (by decide +kernel) (by exact ev_lk_st1_self) ?_
    refine ev_r_chk ?_
    intro c15
    refine ev_r_dr (r := r14) (fun v => [.int (Int32.ofInt x8), v]) c15 ?_
    refine ev_r_virt (pc := 40) (y := 179) (mi := 59) (na := 1) (k := (r14 - 1)) (as := [.int (Int32.ofInt x8)]) (rest := []) (encc := ev_oI) (Q := ev_bl) (fun x S1 h => jt_59 d (by omega) Q ((r14 - 1)) x8 (hr14.resolve_left c15) hx8 s11 x S1 h) (by exact (hr14.resolve_left c15)) (by decide +kernel) (by decide +kernel) (by decide +kernel) (by decide +kernel) rfl (by (try simp only [ev_sum, ev_nv_cat]); first | done | rfl) ?_
    intro x17 s16 hx17
    replace hx17 := ev_bl_rng hx17
    show ev_w _ _ _ _ _ [.int (Int32.ofInt x17)] _ _ _ _
    refine ev_r_if (pc := 43) (q := .eq) (o := 23) (t := 66) (c := x17 = 0) (by decide +kernel) (ev_k_eq hx17 ev_rng0) (by decide +kernel) ?_ ?_
    · intro c18
      refine ev_r_iload_n (pc := 66) (k := 3) (v := Int32.ofInt x8) (by decide +kernel) (by exact ev_lk_st1_self) ?_
      exact ev_r_ireturn (pc := 67) (x := x8) (v := Int32.ofInt x8) (ty := .int) hx8 (by decide +kernel) (by decide +kernel) rfl rfl
    · intro c18
      refine ev_r_aload_n (pc := 46) (k := 0) (v := .ref 3) trivial (by decide +kernel) (by exact (ev_l1 (ev_l1 (by rfl) (by decide) (by decide)) (by decide) (by decide))) ?_
      refine ev_r_getR (pc := 47) (y := 55) (ci := 7) (f := 9) (fin := 0) (t := 5) (by decide +kernel) (by decide +kernel) (by exact ev_ob_3) rfl rfl ?_
      intro r19 hr19
      have hr19 : r19 = 0 ∨ ev_isOb (r19 - 1) 5 = true := hr19
      refine ev_r_chk ?_
      intro c20
      refine ev_r_dr (r := r19) (fun v => [v]) c20 ?_
      refine ev_r_getC (pc := 50) (y := 201) (ci := 5) (f := 3) (fin := 2) (k' := ((r19 - 1) + 4)) (by decide +kernel) (by decide +kernel) (by exact (hr19.resolve_left c20)) rfl rfl ?_
      refine ev_r_iload_n (pc := 53) (k := 2) (v := Int32.ofInt x4) (by decide +kernel) (by exact (ev_lk_st1 ev_lk_st1_self (by decide) rfl)) ?_
      refine ev_r_iload_n (pc := 54) (k := 1) (v := Int32.ofInt a0) (by decide +kernel) (by exact (ev_l1 (ev_lk_st1 (by rfl) (by decide) rfl) (by decide) (by decide))) ?_
      refine ev_r_iast (pc := 55) ha0 hx4 (by decide +kernel) (by exact (ev_fo_5_3 (hr19.resolve_left c20))) ?_
      intro s21
      refine ev_r_aload_n (pc := 56) (k := 0) (v := .ref 3) trivial (by decide +kernel) (by exact (ev_l1 (ev_l1 (by rfl) (by decide) (by decide)) (by decide) (by decide))) ?_
      refine ev_r_getR (pc := 57) (y := 55) (ci := 7) (f := 9) (fin := 0) (t := 5) (by decide +kernel) (by decide +kernel) (by exact ev_ob_3) rfl rfl ?_
      intro r22 hr22
      have hr22 : r22 = 0 ∨ ev_isOb (r22 - 1) 5 = true := hr22
      refine ev_r_chk ?_
      intro c23
      refine ev_r_dr (r := r22) (fun v => [v]) c23 ?_
      refine ev_r_getC (pc := 60) (y := 201) (ci := 5) (f := 3) (fin := 2) (k' := ((r22 - 1) + 4)) (by decide +kernel) (by decide +kernel) (by exact (hr22.resolve_left c23)) rfl rfl ?_
      refine ev_r_iload_n (pc := 63) (k := 3) (v := Int32.ofInt x8) (by decide +kernel) (by exact ev_lk_st1_self) ?_
      refine ev_r_iload_n (pc := 64) (k := 2) (v := Int32.ofInt x4) (by decide +kernel) (by exact (ev_lk_st1 ev_lk_st1_self (by decide) rfl)) ?_
      refine ev_r_iast (pc := 65) hx4 hx8 (by decide +kernel) (by exact (ev_fo_5_3 (hr22.resolve_left c23))) ?_
      intro s24
      refine ev_r_iload_n (pc := 66) (k := 3) (v := Int32.ofInt x8) (by decide +kernel) (by exact ev_lk_st1_self) ?_
      exact ev_r_ireturn (pc := 67) (x := x8) (v := Int32.ofInt x8) (ty := .int) hx8 (by decide +kernel) (by decide +kernel) rfl rfl
/-- MendBench$Reader.addRepeat(II)Z -/
def jm_92 (Q : Nat) (a0 : Int) (a1 : Int) (S : ev_St) : Option ((Int) × ev_St) := ev_b (S.1 3 13) fun x1 => if x1 = 0 then (some (0, S)) else (ev_b (S.1 3 10) fun x3 => if x3 < 0 then (some (0, S)) else (ev_b (S.1 3 10) fun x5 => if 152 ≤ x5 then (some (0, S)) else (ev_bd (jm_87 Q  S) fun x8 s7 => if x8 ≠ 0 then (ev_b (ev_pI s7 3 13 0) fun s10 => ev_bd (jm_84 Q 0 s10) fun x12 s11 => ev_jn (fun (x13 : Int) (s19 : ev_St) => ev_b (s19.1 3 10) fun x20 => ev_if ((0 : Int) ≤ x20 ∧ x20 < (152 : Int)) (ev_b (17 + 1 * Int.toNat x20) fun _ => ev_b (s19.2.2.1 3 9) fun r23 => ev_jn (fun (r24 : Nat) (x26 : Int) (r25 : Nat) (s33 : ev_St) => ev_if (r25 ≠ 0) (ev_bd (jm_58 Q ((r25 - 1)) x26 a0 a1 s33) fun x36 s35 => ev_b (s35.2.2.1 3 9) fun r37 => ev_if (r37 ≠ 0) (ev_bd (jm_59 Q ((r37 - 1)) x36 s35) fun x40 s39 => if x40 ≠ 0 then (ev_b (s39.2.2.1 3 9) fun r42 => ev_if (r42 ≠ 0) (ev_b (s39.1 r24 7) fun x44 => ev_if ((0 : Int) ≤ x36 ∧ x36 < (ev_aln (((r42 - 1) + 4)) : Int)) (ev_b (ev_pI s39 (((r42 - 1) + 4)) (Int.toNat x36) x44) fun s45 => ev_jn (fun (x46 : Int) (s50 : ev_St) => ev_b (s50.2.2.1 3 9) fun r51 => ev_if (r51 ≠ 0) (ev_bd (jm_59 Q ((r51 - 1)) x46 s50) fun x54 s53 => if x54 ≠ 0 then (ev_b (s53.2.2.1 3 9) fun r56 => ev_b (s53.1 r24 8) fun x57 => ev_if (r56 ≠ 0) (ev_bd (jm_59 Q ((r56 - 1)) x57 s53) fun x60 s59 => if x60 = 0 then (ev_b (ev_pI s59 r24 6 x46) fun s62 => ev_b (ev_pI s62 r24 7 x46) fun s63 => some (1, s63)) else (ev_b (s59.2.2.1 3 9) fun r64 => ev_if (r64 ≠ 0) (ev_b (s59.1 r24 8) fun x66 => ev_if ((0 : Int) ≤ x66 ∧ x66 < (ev_aln (((r64 - 1) + 5)) : Int)) (ev_b (ev_pI s59 (((r64 - 1) + 5)) (Int.toNat x66) x46) fun s67 => ev_b (ev_pI s67 r24 7 x46) fun s68 => some (1, s68)))))) else (some (0, s53)))) fun K149 => if x13 ≠ 43 then (K149 x36 s45) else (ev_bd (jm_93 Q x36 s45) fun x71 s70 => K149 x71 s70)))) else (some (0, s39))))) fun K96 => if x13 ≠ 63 then (K96 ((17 + 1 * Int.toNat x20)) 13 r23 s19) else (K96 ((17 + 1 * Int.toNat x20)) 14 r23 s19))) fun K68 => ev_jn (fun (x73 : Int) (s79 : ev_St) => ev_b (s79.1 3 8) fun x80 => ev_ck (x80 + 1) fun x81 => ev_b (ev_pI s79 3 8 x81) fun s82 => K68 x73 s82) fun K58 => if x12 = 63 then (K58 x12 s11) else (if x12 ≠ 43 then (K68 x12 s11) else (K58 x12 s11))) else (some (0, s7)))))
theorem jt_92 (d : Nat) (hd : 3 ≤ d) (Q : Nat) (a0 : Int) (a1 : Int) (ha0 : ev_rng a0) (ha1 : ev_rng a1) (S : ev_St) (x : Int) (S' : ev_St) (hJ : jm_92 Q a0 a1 S = some (x, S')) : ev_Ref d 92 [.ref 3, .int (Int32.ofInt a0), .int (Int32.ofInt a1)] S (ev_eI x) S' (ev_bl x) := by
  obtain ⟨d, rfl⟩ : ∃ e, d = e + 1 := ⟨d - 1, by omega⟩
  refine ev_ref_of (P := ev_bl) (lv := [(0, .ref 3), (1, .int (Int32.ofInt a0)), (2, .int (Int32.ofInt a1))]) (by decide +kernel) (by (try simp only [ev_sum, ev_nv_cat]); first | done | rfl) (by (try simp only [lv_args, ev_nv_cat]); first | done | rfl) ?_ x S' hJ
  unfold jm_92
  refine ev_r_aload_n (pc := 0) (k := 0) (v := .ref 3) trivial (by decide +kernel) (by rfl) ?_
  refine ev_r_getI (pc := 1) (y := 165) (ci := 7) (f := 13) (fin := 0) (by decide +kernel) (by decide +kernel) (by exact ev_ob_3) rfl ?_
  intro x1 hx1
  refine ev_r_if (pc := 4) (q := .eq) (o := 29) (t := 33) (c := x1 = 0) (by decide +kernel) (ev_k_eq hx1 ev_rng0) (by decide +kernel) ?_ ?_
  · intro c2
    refine ev_r_iconst (pc := 33) (k := 0) (by decide +kernel) ?_
    exact ev_r_ireturn (pc := 34) (x := 0) (v := Int32.ofInt 0) (ty := .boolean) (by decide : ev_bl 0) (by decide +kernel) (by decide +kernel) (ev_ret_bl (by decide : ev_bl 0)) rfl
  · intro c2
    refine ev_r_aload_n (pc := 7) (k := 0) (v := .ref 3) trivial (by decide +kernel) (by rfl) ?_
    refine ev_r_getI (pc := 8) (y := 69) (ci := 7) (f := 10) (fin := 0) (by decide +kernel) (by decide +kernel) (by exact ev_ob_3) rfl ?_
    intro x3 hx3
    refine ev_r_if (pc := 11) (q := .lt) (o := 22) (t := 33) (c := x3 < 0) (by decide +kernel) (ev_k_lt hx3 ev_rng0) (by decide +kernel) ?_ ?_
    · intro c4
      refine ev_r_iconst (pc := 33) (k := 0) (by decide +kernel) ?_
      exact ev_r_ireturn (pc := 34) (x := 0) (v := Int32.ofInt 0) (ty := .boolean) (by decide : ev_bl 0) (by decide +kernel) (by decide +kernel) (ev_ret_bl (by decide : ev_bl 0)) rfl
    · intro c4
      refine ev_r_aload_n (pc := 14) (k := 0) (v := .ref 3) trivial (by decide +kernel) (by rfl) ?_
      refine ev_r_getI (pc := 15) (y := 69) (ci := 7) (f := 10) (fin := 0) (by decide +kernel) (by decide +kernel) (by exact ev_ob_3) rfl ?_
      intro x5 hx5
      refine ev_r_aload_n (pc := 18) (k := 0) (v := .ref 3) trivial (by decide +kernel) (by rfl) ?_
      refine ev_r_getC (pc := 19) (y := 30) (ci := 7) (f := 3) (fin := 1) (k' := 14) (by decide +kernel) (by decide +kernel) (by exact ev_ob_3) rfl rfl ?_
      refine ev_r_alenC (pc := 22) (kd := 3) (N := 152) (t := (.object "MendBench$Open", 17, 1)) (Or.inl rfl) (by decide +kernel) (by decide +kernel) ?_
      refine ev_r_icmp (pc := 23) (q := .ge) (o := 10) (t := 33) (c := 152 ≤ x5) (by decide +kernel) (ev_k_ge hx5 (by decide)) (by decide +kernel) ?_ ?_
      · intro c6
        refine ev_r_iconst (pc := 33) (k := 0) (by decide +kernel) ?_
        exact ev_r_ireturn (pc := 34) (x := 0) (v := Int32.ofInt 0) (ty := .boolean) (by decide : ev_bl 0) (by decide +kernel) (by decide +kernel) (ev_ret_bl (by decide : ev_bl 0)) rfl
      · intro c6
        refine ev_r_aload_n (pc := 26) (k := 0) (v := .ref 3) trivial (by decide +kernel) (by rfl) ?_
        refine ev_r_virt (pc := 27) (y := 162) (mi := 87) (na := 0) (k := 3) (as := []) (rest := []) (encc := ev_oI) (Q := ev_bl) (fun x S1 h => jt_87 d (by omega) Q   S x S1 h) (by exact ev_ob_3) (by decide +kernel) (by decide +kernel) (by decide +kernel) (by decide +kernel) rfl (by (try simp only [ev_sum, ev_nv_cat]); first | done | rfl) ?_
        intro x8 s7 hx8
        replace hx8 := ev_bl_rng hx8
        show ev_w _ _ _ _ _ [.int (Int32.ofInt x8)] _ _ _ _
        refine ev_r_if (pc := 30) (q := .ne) (o := 5) (t := 35) (c := x8 ≠ 0) (by decide +kernel) (ev_k_ne hx8 ev_rng0) (by decide +kernel) ?_ ?_
        · intro c9
          refine ev_r_aload_n (pc := 35) (k := 0) (v := .ref 3) trivial (by decide +kernel) (by rfl) ?_
          refine ev_r_iconst (pc := 36) (k := 0) (by decide +kernel) ?_
          refine ev_r_putI (pc := 37) (y := 165) (ci := 7) (f := 13) (by decide) (by decide +kernel) (by decide +kernel) (by exact ev_ob_3) rfl (ev_fit_bl (by decide : ev_bl 0)) ?_
          intro s10
          refine ev_r_aload_n (pc := 40) (k := 0) (v := .ref 3) trivial (by decide +kernel) (by rfl) ?_
          refine ev_r_iconst (pc := 41) (k := 0) (by decide +kernel) ?_
          refine ev_r_virt (pc := 42) (y := 108) (mi := 84) (na := 1) (k := 3) (as := [.int (Int32.ofInt 0)]) (rest := []) (encc := ev_oI) (Q := ev_rng) (fun x S1 h => jt_84 d (by omega) Q 0 (by decide) s10 x S1 h) (by exact ev_ob_3) (by decide +kernel) (by decide +kernel) (by decide +kernel) (by decide +kernel) rfl (by (try simp only [ev_sum, ev_nv_cat]); first | done | rfl) ?_
          intro x12 s11 hx12
          show ev_w _ _ _ _ _ [.int (Int32.ofInt x12)] _ _ _ _
          refine ev_r_istore_n (pc := 45) (k := 3) (by decide +kernel) (by decide +kernel) rfl ?_
          refine ev_r_iload_n (pc := 46) (k := 3) (v := Int32.ofInt x12) (by decide +kernel) (by exact ev_lk_st1_self) ?_
          refine ev_r_bipush (pc := 47) (k := 63) (by decide +kernel) (by decide +kernel) ?_
          refine ev_r_jn (Q := fun K => ∀ (x13 : Int) (hx13 : ev_rng x13), ∀ (s19 : ev_St) (w14 : List (Nat × Value)), ev_lk w14 0 = some (.ref 3) → ev_lk w14 1 = some (.int (Int32.ofInt a0)) → ev_lk w14 2 = some (.int (Int32.ofInt a1)) → ev_lk w14 3 = some (.int (Int32.ofInt x13)) → ev_w none (ev_Mof 92) d 68 w14 [] s19 (K x13 s19) ev_eI ev_bl) ?_ ?_
          · intro x13 hx13 s19 w14 e15 e16 e17 e18
            refine ev_r_aload_n (pc := 68) (k := 0) (v := .ref 3) trivial (by decide +kernel) (by exact e15) ?_
            refine ev_r_getC (pc := 69) (y := 30) (ci := 7) (f := 3) (fin := 1) (k' := 14) (by decide +kernel) (by decide +kernel) (by exact ev_ob_3) rfl rfl ?_
            refine ev_r_aload_n (pc := 72) (k := 0) (v := .ref 3) trivial (by decide +kernel) (by exact e15) ?_
            refine ev_r_getI (pc := 73) (y := 69) (ci := 7) (f := 10) (fin := 0) (by decide +kernel) (by decide +kernel) (by exact ev_ob_3) rfl ?_
            intro x20 hx20
            refine ev_r_aald (pc := 76) (N := 152) (b := 17) (c := 1) (C := "MendBench$Open") hx20 (by decide +kernel) (by decide +kernel) ?_
            intro c21
            refine ev_r_astore (pc := 77) (k := 4) trivial (by decide +kernel) (by decide +kernel) rfl ?_
            refine ev_r_aload_n (pc := 79) (k := 0) (v := .ref 3) trivial (by decide +kernel) (by exact (ev_l1 e15 (by decide) (by decide))) ?_
            refine ev_r_getR (pc := 80) (y := 55) (ci := 7) (f := 9) (fin := 0) (t := 5) (by decide +kernel) (by decide +kernel) (by exact ev_ob_3) rfl rfl ?_
            intro r23 hr23
            have hr23 : r23 = 0 ∨ ev_isOb (r23 - 1) 5 = true := hr23
            refine ev_r_iload_n (pc := 83) (k := 3) (v := Int32.ofInt x13) (by decide +kernel) (by exact (ev_lk_st1 e18 (by decide) rfl)) ?_
            refine ev_r_bipush (pc := 84) (k := 63) (by decide +kernel) (by decide +kernel) ?_
            refine ev_r_jn (Q := fun K => ∀ (r24 : Nat) (hr24 : ev_isOb r24 4 = true), ∀ (x26 : Int) (hx26 : ev_rng x26), ∀ (r25 : Nat) (hr25 : r25 = 0 ∨ ev_isOb (r25 - 1) 5 = true), ∀ (s33 : ev_St) (w27 : List (Nat × Value)), ev_lk w27 0 = some (.ref 3) → ev_lk w27 1 = some (.int (Int32.ofInt a0)) → ev_lk w27 2 = some (.int (Int32.ofInt a1)) → ev_lk w27 3 = some (.int (Int32.ofInt x13)) → ev_lk w27 4 = some (.ref r24) → ev_w none (ev_Mof 92) d 96 w27 [.int (Int32.ofInt x26), ev_nv r25] s33 (K r24 x26 r25 s33) ev_eI ev_bl) ?_ ?_
            · intro r24 hr24 x26 hx26 r25 hr25 s33 w27 e28 e29 e30 e31 e32
              refine ev_r_iload_n (pc := 96) (k := 1) (v := Int32.ofInt a0) (by decide +kernel) (by exact e29) ?_
              refine ev_r_iload_n (pc := 97) (k := 2) (v := Int32.ofInt a1) (by decide +kernel) (by exact e30) ?_
              refine ev_r_chk ?_
              intro c34
              refine ev_r_dr (r := r25) (fun v => [.int (Int32.ofInt a1), .int (Int32.ofInt a0), .int (Int32.ofInt x26), v]) c34 ?_
              refine ev_r_virt (pc := 98) (y := 168) (mi := 58) (na := 3) (k := (r25 - 1)) (as := [.int (Int32.ofInt x26), .int (Int32.ofInt a0), .int (Int32.ofInt a1)]) (rest := []) (encc := ev_oI) (Q := ev_rng) (fun x S1 h => jt_58 d (by omega) Q ((r25 - 1)) x26 a0 a1 (hr25.resolve_left c34) hx26 ha0 ha1 s33 x S1 h) (by exact (hr25.resolve_left c34)) (by decide +kernel) (by decide +kernel) (by decide +kernel) (by decide +kernel) rfl (by (try simp only [ev_sum, ev_nv_cat]); first | done | rfl) ?_
              intro x36 s35 hx36
              show ev_w _ _ _ _ _ [.int (Int32.ofInt x36)] _ _ _ _
              refine ev_r_istore (pc := 101) (k := 5) (by decide +kernel) (by decide +kernel) rfl ?_
              refine ev_r_aload_n (pc := 103) (k := 0) (v := .ref 3) trivial (by decide +kernel) (by exact (ev_l1 e28 (by decide) (by decide))) ?_
              refine ev_r_getR (pc := 104) (y := 55) (ci := 7) (f := 9) (fin := 0) (t := 5) (by decide +kernel) (by decide +kernel) (by exact ev_ob_3) rfl rfl ?_
              intro r37 hr37
              have hr37 : r37 = 0 ∨ ev_isOb (r37 - 1) 5 = true := hr37
              refine ev_r_iload (pc := 107) (k := 5) (v := Int32.ofInt x36) (by decide +kernel) (by exact ev_lk_st1_self) ?_
              refine ev_r_chk ?_
              intro c38
              refine ev_r_dr (r := r37) (fun v => [.int (Int32.ofInt x36), v]) c38 ?_
              refine ev_r_virt (pc := 109) (y := 179) (mi := 59) (na := 1) (k := (r37 - 1)) (as := [.int (Int32.ofInt x36)]) (rest := []) (encc := ev_oI) (Q := ev_bl) (fun x S1 h => jt_59 d (by omega) Q ((r37 - 1)) x36 (hr37.resolve_left c38) hx36 s35 x S1 h) (by exact (hr37.resolve_left c38)) (by decide +kernel) (by decide +kernel) (by decide +kernel) (by decide +kernel) rfl (by (try simp only [ev_sum, ev_nv_cat]); first | done | rfl) ?_
              intro x40 s39 hx40
              replace hx40 := ev_bl_rng hx40
              show ev_w _ _ _ _ _ [.int (Int32.ofInt x40)] _ _ _ _
              refine ev_r_if (pc := 112) (q := .ne) (o := 5) (t := 117) (c := x40 ≠ 0) (by decide +kernel) (ev_k_ne hx40 ev_rng0) (by decide +kernel) ?_ ?_
              · intro c41
                refine ev_r_aload_n (pc := 117) (k := 0) (v := .ref 3) trivial (by decide +kernel) (by exact (ev_l1 e28 (by decide) (by decide))) ?_
                refine ev_r_getR (pc := 118) (y := 55) (ci := 7) (f := 9) (fin := 0) (t := 5) (by decide +kernel) (by decide +kernel) (by exact ev_ob_3) rfl rfl ?_
                intro r42 hr42
                have hr42 : r42 = 0 ∨ ev_isOb (r42 - 1) 5 = true := hr42
                refine ev_r_chk ?_
                intro c43
                refine ev_r_dr (r := r42) (fun v => [v]) c43 ?_
                refine ev_r_getC (pc := 121) (y := 201) (ci := 5) (f := 3) (fin := 2) (k' := ((r42 - 1) + 4)) (by decide +kernel) (by decide +kernel) (by exact (hr42.resolve_left c43)) rfl rfl ?_
                refine ev_r_iload (pc := 124) (k := 5) (v := Int32.ofInt x36) (by decide +kernel) (by exact ev_lk_st1_self) ?_
                refine ev_r_aload (pc := 126) (k := 4) (v := .ref r24) trivial (by decide +kernel) (by exact (ev_lk_st1 e32 (by decide) rfl)) ?_
                refine ev_r_getI (pc := 128) (y := 189) (ci := 4) (f := 7) (fin := 0) (by decide +kernel) (by decide +kernel) (by exact hr24) rfl ?_
                intro x44 hx44
                refine ev_r_iast (pc := 131) hx44 hx36 (by decide +kernel) (by exact (ev_fo_5_3 (hr42.resolve_left c43))) ?_
                intro s45
                refine ev_r_iload_n (pc := 132) (k := 3) (v := Int32.ofInt x13) (by decide +kernel) (by exact (ev_l1 e31 (by decide) (by decide))) ?_
                refine ev_r_bipush (pc := 133) (k := 43) (by decide +kernel) (by decide +kernel) ?_
                refine ev_r_jn (Q := fun K => ∀ (x46 : Int) (hx46 : ev_rng x46), ∀ (s50 : ev_St) (w47 : List (Nat × Value)), ev_lk w47 0 = some (.ref 3) → ev_lk w47 4 = some (.ref r24) → ev_w none (ev_Mof 92) d 149 w47 [.int (Int32.ofInt x46)] s50 (K x46 s50) ev_eI ev_bl) ?_ ?_
                · intro x46 hx46 s50 w47 e48 e49
                  refine ev_r_istore (pc := 149) (k := 6) (by decide +kernel) (by decide +kernel) rfl ?_
                  refine ev_r_aload_n (pc := 151) (k := 0) (v := .ref 3) trivial (by decide +kernel) (by exact (ev_l1 e48 (by decide) (by decide))) ?_
                  refine ev_r_getR (pc := 152) (y := 55) (ci := 7) (f := 9) (fin := 0) (t := 5) (by decide +kernel) (by decide +kernel) (by exact ev_ob_3) rfl rfl ?_
                  intro r51 hr51
                  have hr51 : r51 = 0 ∨ ev_isOb (r51 - 1) 5 = true := hr51
                  refine ev_r_iload (pc := 155) (k := 6) (v := Int32.ofInt x46) (by decide +kernel) (by exact ev_lk_st1_self) ?_
                  refine ev_r_chk ?_
                  intro c52
                  refine ev_r_dr (r := r51) (fun v => [.int (Int32.ofInt x46), v]) c52 ?_
                  refine ev_r_virt (pc := 157) (y := 179) (mi := 59) (na := 1) (k := (r51 - 1)) (as := [.int (Int32.ofInt x46)]) (rest := []) (encc := ev_oI) (Q := ev_bl) (fun x S1 h => jt_59 d (by omega) Q ((r51 - 1)) x46 (hr51.resolve_left c52) hx46 s50 x S1 h) (by exact (hr51.resolve_left c52)) (by decide +kernel) (by decide +kernel) (by decide +kernel) (by decide +kernel) rfl (by (try simp only [ev_sum, ev_nv_cat]); first | done | rfl) ?_
                  intro x54 s53 hx54
                  replace hx54 := ev_bl_rng hx54
                  show ev_w _ _ _ _ _ [.int (Int32.ofInt x54)] _ _ _ _
                  refine ev_r_if (pc := 160) (q := .ne) (o := 5) (t := 165) (c := x54 ≠ 0) (by decide +kernel) (ev_k_ne hx54 ev_rng0) (by decide +kernel) ?_ ?_
                  · intro c55
                    refine ev_r_aload_n (pc := 165) (k := 0) (v := .ref 3) trivial (by decide +kernel) (by exact (ev_l1 e48 (by decide) (by decide))) ?_
                    refine ev_r_getR (pc := 166) (y := 55) (ci := 7) (f := 9) (fin := 0) (t := 5) (by decide +kernel) (by decide +kernel) (by exact ev_ob_3) rfl rfl ?_
                    intro r56 hr56
                    have hr56 : r56 = 0 ∨ ev_isOb (r56 - 1) 5 = true := hr56
                    refine ev_r_aload (pc := 169) (k := 4) (v := .ref r24) trivial (by decide +kernel) (by exact (ev_l1 e49 (by decide) (by decide))) ?_
                    refine ev_r_getI (pc := 171) (y := 198) (ci := 4) (f := 8) (fin := 0) (by decide +kernel) (by decide +kernel) (by exact hr24) rfl ?_
                    intro x57 hx57
                    refine ev_r_chk ?_
                    intro c58
                    refine ev_r_dr (r := r56) (fun v => [.int (Int32.ofInt x57), v]) c58 ?_
                    refine ev_r_virt (pc := 174) (y := 179) (mi := 59) (na := 1) (k := (r56 - 1)) (as := [.int (Int32.ofInt x57)]) (rest := []) (encc := ev_oI) (Q := ev_bl) (fun x S1 h => jt_59 d (by omega) Q ((r56 - 1)) x57 (hr56.resolve_left c58) hx57 s53 x S1 h) (by exact (hr56.resolve_left c58)) (by decide +kernel) (by decide +kernel) (by decide +kernel) (by decide +kernel) rfl (by (try simp only [ev_sum, ev_nv_cat]); first | done | rfl) ?_
                    intro x60 s59 hx60
                    replace hx60 := ev_bl_rng hx60
                    show ev_w _ _ _ _ _ [.int (Int32.ofInt x60)] _ _ _ _
                    refine ev_r_if (pc := 177) (q := .eq) (o := 21) (t := 198) (c := x60 = 0) (by decide +kernel) (ev_k_eq hx60 ev_rng0) (by decide +kernel) ?_ ?_
                    · intro c61
                      refine ev_r_aload (pc := 198) (k := 4) (v := .ref r24) trivial (by decide +kernel) (by exact (ev_l1 e49 (by decide) (by decide))) ?_
                      refine ev_r_iload (pc := 200) (k := 6) (v := Int32.ofInt x46) (by decide +kernel) (by exact ev_lk_st1_self) ?_
                      refine ev_r_putI (pc := 202) (y := 195) (ci := 4) (f := 6) hx46 (by decide +kernel) (by decide +kernel) (by exact hr24) rfl rfl ?_
                      intro s62
                      refine ev_r_aload (pc := 205) (k := 4) (v := .ref r24) trivial (by decide +kernel) (by exact (ev_l1 e49 (by decide) (by decide))) ?_
                      refine ev_r_iload (pc := 207) (k := 6) (v := Int32.ofInt x46) (by decide +kernel) (by exact ev_lk_st1_self) ?_
                      refine ev_r_putI (pc := 209) (y := 189) (ci := 4) (f := 7) hx46 (by decide +kernel) (by decide +kernel) (by exact hr24) rfl rfl ?_
                      intro s63
                      refine ev_r_iconst (pc := 212) (k := 1) (by decide +kernel) ?_
                      exact ev_r_ireturn (pc := 213) (x := 1) (v := Int32.ofInt 1) (ty := .boolean) (by decide : ev_bl 1) (by decide +kernel) (by decide +kernel) (ev_ret_bl (by decide : ev_bl 1)) rfl
                    · intro c61
                      refine ev_r_aload_n (pc := 180) (k := 0) (v := .ref 3) trivial (by decide +kernel) (by exact (ev_l1 e48 (by decide) (by decide))) ?_
                      refine ev_r_getR (pc := 181) (y := 55) (ci := 7) (f := 9) (fin := 0) (t := 5) (by decide +kernel) (by decide +kernel) (by exact ev_ob_3) rfl rfl ?_
                      intro r64 hr64
                      have hr64 : r64 = 0 ∨ ev_isOb (r64 - 1) 5 = true := hr64
                      refine ev_r_chk ?_
                      intro c65
                      refine ev_r_dr (r := r64) (fun v => [v]) c65 ?_
                      refine ev_r_getC (pc := 184) (y := 192) (ci := 5) (f := 4) (fin := 2) (k' := ((r64 - 1) + 5)) (by decide +kernel) (by decide +kernel) (by exact (hr64.resolve_left c65)) rfl rfl ?_
                      refine ev_r_aload (pc := 187) (k := 4) (v := .ref r24) trivial (by decide +kernel) (by exact (ev_l1 e49 (by decide) (by decide))) ?_
                      refine ev_r_getI (pc := 189) (y := 198) (ci := 4) (f := 8) (fin := 0) (by decide +kernel) (by decide +kernel) (by exact hr24) rfl ?_
                      intro x66 hx66
                      refine ev_r_iload (pc := 192) (k := 6) (v := Int32.ofInt x46) (by decide +kernel) (by exact ev_lk_st1_self) ?_
                      refine ev_r_iast (pc := 194) hx46 hx66 (by decide +kernel) (by exact (ev_fo_5_4 (hr64.resolve_left c65))) ?_
                      intro s67
                      refine ev_r_goto (pc := 195) (o := 10) (t := 205) (by decide +kernel) (by decide +kernel) ?_
                      refine ev_r_aload (pc := 205) (k := 4) (v := .ref r24) trivial (by decide +kernel) (by exact (ev_l1 e49 (by decide) (by decide))) ?_
                      refine ev_r_iload (pc := 207) (k := 6) (v := Int32.ofInt x46) (by decide +kernel) (by exact ev_lk_st1_self) ?_
                      refine ev_r_putI (pc := 209) (y := 189) (ci := 4) (f := 7) hx46 (by decide +kernel) (by decide +kernel) (by exact hr24) rfl rfl ?_
                      intro s68
                      refine ev_r_iconst (pc := 212) (k := 1) (by decide +kernel) ?_
                      exact ev_r_ireturn (pc := 213) (x := 1) (v := Int32.ofInt 1) (ty := .boolean) (by decide : ev_bl 1) (by decide +kernel) (by decide +kernel) (ev_ret_bl (by decide : ev_bl 1)) rfl
                  · intro c55
                    refine ev_r_iconst (pc := 163) (k := 0) (by decide +kernel) ?_
                    exact ev_r_ireturn (pc := 164) (x := 0) (v := Int32.ofInt 0) (ty := .boolean) (by decide : ev_bl 0) (by decide +kernel) (by decide +kernel) (ev_ret_bl (by decide : ev_bl 0)) rfl
                · intro K149 hK149
                  refine ev_r_icmp (pc := 135) (q := .ne) (o := 12) (t := 147) (c := x13 ≠ 43) (by decide +kernel) (ev_k_ne hx13 (by decide)) (by decide +kernel) ?_ ?_
                  · intro c69
                    refine ev_r_iload (pc := 147) (k := 5) (v := Int32.ofInt x36) (by decide +kernel) (by exact ev_lk_st1_self) ?_
                    exact hK149 x36 hx36 s45 _ (by exact (ev_l1 e28 (by decide) (by decide))) (by exact (ev_lk_st1 e32 (by decide) rfl))
                  · intro c69
                    refine ev_r_aload_n (pc := 138) (k := 0) (v := .ref 3) trivial (by decide +kernel) (by exact (ev_l1 e28 (by decide) (by decide))) ?_
                    refine ev_r_iload (pc := 139) (k := 5) (v := Int32.ofInt x36) (by decide +kernel) (by exact ev_lk_st1_self) ?_
                    refine ev_r_virt (pc := 141) (y := 204) (mi := 93) (na := 1) (k := 3) (as := [.int (Int32.ofInt x36)]) (rest := []) (encc := ev_oI) (Q := ev_rng) (fun x S1 h => jt_93 d (by omega) Q x36 hx36 s45 x S1 h) (by exact ev_ob_3) (by decide +kernel) (by decide +kernel) (by decide +kernel) (by decide +kernel) rfl (by (try simp only [ev_sum, ev_nv_cat]); first | done | rfl) ?_
                    intro x71 s70 hx71
                    show ev_w _ _ _ _ _ [.int (Int32.ofInt x71)] _ _ _ _
                    refine ev_r_goto (pc := 144) (o := 5) (t := 149) (by decide +kernel) (by decide +kernel) ?_
                    exact hK149 x71 hx71 s70 _ (by exact (ev_l1 e28 (by decide) (by decide))) (by exact (ev_lk_st1 e32 (by decide) rfl))
              · intro c41
                refine ev_r_iconst (pc := 115) (k := 0) (by decide +kernel) ?_
                exact ev_r_ireturn (pc := 116) (x := 0) (v := Int32.ofInt 0) (ty := .boolean) (by decide : ev_bl 0) (by decide +kernel) (by decide +kernel) (ev_ret_bl (by decide : ev_bl 0)) rfl
            · intro K96 hK96
              refine ev_r_icmp (pc := 86) (q := .ne) (o := 8) (t := 94) (c := x13 ≠ 63) (by decide +kernel) (ev_k_ne hx13 (by decide)) (by decide +kernel) ?_ ?_
              · intro c72
                refine ev_r_bipush (pc := 94) (k := 13) (by decide +kernel) (by decide +kernel) ?_
                exact hK96 ((17 + 1 * Int.toNat x20)) (ev_el_14 c21) 13 (by decide) r23 hr23 s19 _ (by exact (ev_l1 e15 (by decide) (by decide))) (by exact (ev_l1 e16 (by decide) (by decide))) (by exact (ev_l1 e17 (by decide) (by decide))) (by exact (ev_lk_st1 e18 (by decide) rfl)) (by exact ev_lk_st1_self)
              · intro c72
                refine ev_r_bipush (pc := 89) (k := 14) (by decide +kernel) (by decide +kernel) ?_
                refine ev_r_goto (pc := 91) (o := 5) (t := 96) (by decide +kernel) (by decide +kernel) ?_
                exact hK96 ((17 + 1 * Int.toNat x20)) (ev_el_14 c21) 14 (by decide) r23 hr23 s19 _ (by exact (ev_l1 e15 (by decide) (by decide))) (by exact (ev_l1 e16 (by decide) (by decide))) (by exact (ev_l1 e17 (by decide) (by decide))) (by exact (ev_lk_st1 e18 (by decide) rfl)) (by exact ev_lk_st1_self)
          · intro K68 hK68
            refine ev_r_jn (Q := fun K => ∀ (x73 : Int) (hx73 : ev_rng x73), ∀ (s79 : ev_St) (w74 : List (Nat × Value)), ev_lk w74 0 = some (.ref 3) → ev_lk w74 1 = some (.int (Int32.ofInt a0)) → ev_lk w74 2 = some (.int (Int32.ofInt a1)) → ev_lk w74 3 = some (.int (Int32.ofInt x73)) → ev_w none (ev_Mof 92) d 58 w74 [] s79 (K x73 s79) ev_eI ev_bl) ?_ ?_
            · intro x73 hx73 s79 w74 e75 e76 e77 e78
              refine ev_r_aload_n (pc := 58) (k := 0) (v := .ref 3) trivial (by decide +kernel) (by exact e75) ?_
              refine ev_r_dup (pc := 59) rfl (by decide +kernel) ?_
              refine ev_r_getI (pc := 60) (y := 63) (ci := 7) (f := 8) (fin := 0) (by decide +kernel) (by decide +kernel) (by exact ev_ob_3) rfl ?_
              intro x80 hx80
              refine ev_r_iconst (pc := 63) (k := 1) (by decide +kernel) ?_
              refine ev_r_iadd (pc := 64) (by decide +kernel) ?_
              intro x81 hx81
              refine ev_r_putI (pc := 65) (y := 63) (ci := 7) (f := 8) hx81 (by decide +kernel) (by decide +kernel) (by exact ev_ob_3) rfl rfl ?_
              intro s82
              exact hK68 x73 hx73 s82 _ (by exact e75) (by exact e76) (by exact e77) (by exact e78)
            · intro K58 hK58
              refine ev_r_icmp (pc := 49) (q := .eq) (o := 9) (t := 58) (c := x12 = 63) (by decide +kernel) (ev_k_eq hx12 (by decide)) (by decide +kernel) ?_ ?_
              · intro c83
                exact hK58 x12 hx12 s11 _ (by exact (ev_l1 (by rfl) (by decide) (by decide))) (by exact (ev_l1 (by rfl) (by decide) (by decide))) (by exact (ev_lk_st1 (by rfl) (by decide) rfl)) (by exact ev_lk_st1_self)
              · intro c83
                refine ev_r_iload_n (pc := 52) (k := 3) (v := Int32.ofInt x12) (by decide +kernel) (by exact ev_lk_st1_self) ?_
                refine ev_r_bipush (pc := 53) (k := 43) (by decide +kernel) (by decide +kernel) ?_
                refine ev_r_icmp (pc := 55) (q := .ne) (o := 13) (t := 68) (c := x12 ≠ 43) (by decide +kernel) (ev_k_ne hx12 (by decide)) (by decide +kernel) ?_ ?_
                · intro c84
                  exact hK68 x12 hx12 s11 _ (by exact (ev_l1 (by rfl) (by decide) (by decide))) (by exact (ev_l1 (by rfl) (by decide) (by decide))) (by exact (ev_lk_st1 (by rfl) (by decide) rfl)) (by exact ev_lk_st1_self)
                · intro c84
                  exact hK58 x12 hx12 s11 _ (by exact (ev_l1 (by rfl) (by decide) (by decide))) (by exact (ev_l1 (by rfl) (by decide) (by decide))) (by exact (ev_lk_st1 (by rfl) (by decide) rfl)) (by exact ev_lk_st1_self)
        · intro c9
          refine ev_r_iconst (pc := 33) (k := 0) (by decide +kernel) ?_
          exact ev_r_ireturn (pc := 34) (x := 0) (v := Int32.ofInt 0) (ty := .boolean) (by decide : ev_bl 0) (by decide +kernel) (by decide +kernel) (ev_ret_bl (by decide : ev_bl 0)) rfl
/-- MendBench$Reader.readNumber()I -/
def jm_95 (Q : Nat)  (S : ev_St) : Option ((Int) × ev_St) := ev_bd (jm_84 Q 0 S) fun x2 s1 => ev_bd (jm_208 Q x2 s1) fun x4 s3 => if x4 ≠ 0 then (ev_bd (jm_84 Q 0 s3) fun x7 s6 => ev_ck (x7 - 48) fun x8 => ev_b (s6.1 3 8) fun x9 => ev_ck (x9 + 1) fun x10 => ev_b (ev_pI s6 3 8 x10) fun s11 => ev_bd (jm_84 Q 0 s11) fun x13 s12 => ev_bd (jm_208 Q x13 s12) fun x15 s14 => if x15 = 0 then (some (x8, s14)) else (ev_ck (10 * x8) fun x17 => ev_bd (jm_84 Q 0 s14) fun x19 s18 => ev_ck (x17 + x19) fun x20 => ev_ck (x20 - 48) fun x21 => ev_b (s18.1 3 8) fun x22 => ev_ck (x22 + 1) fun x23 => ev_b (ev_pI s18 3 8 x23) fun s24 => some (x21, s24))) else (some ((-1), s3))
theorem jt_95 (d : Nat) (hd : 3 ≤ d) (Q : Nat)   (S : ev_St) (x : Int) (S' : ev_St) (hJ : jm_95 Q  S = some (x, S')) : ev_Ref d 95 [.ref 3] S (ev_eI x) S' (ev_rng x) := by
  obtain ⟨d, rfl⟩ : ∃ e, d = e + 1 := ⟨d - 1, by omega⟩
  refine ev_ref_of (P := ev_rng) (lv := [(0, .ref 3)]) (by decide +kernel) (by (try simp only [ev_sum, ev_nv_cat]); first | done | rfl) (by (try simp only [lv_args, ev_nv_cat]); first | done | rfl) ?_ x S' hJ
  unfold jm_95
  refine ev_r_aload_n (pc := 0) (k := 0) (v := .ref 3) trivial (by decide +kernel) (by rfl) ?_
  refine ev_r_iconst (pc := 1) (k := 0) (by decide +kernel) ?_
  refine ev_r_virt (pc := 2) (y := 108) (mi := 84) (na := 1) (k := 3) (as := [.int (Int32.ofInt 0)]) (rest := []) (encc := ev_oI) (Q := ev_rng) (fun x S1 h => jt_84 d (by omega) Q 0 (by decide) S x S1 h) (by exact ev_ob_3) (by decide +kernel) (by decide +kernel) (by decide +kernel) (by decide +kernel) rfl (by (try simp only [ev_sum, ev_nv_cat]); first | done | rfl) ?_
  intro x2 s1 hx2
  show ev_w _ _ _ _ _ [.int (Int32.ofInt x2)] _ _ _ _
  refine ev_r_stat (pc := 5) (y := 211) (kind := 5) (mi := 208) (na := 1) (as := [.int (Int32.ofInt x2)]) (rest := []) (encc := ev_oI) (Q := ev_bl) (fun x S1 h => jt_208 d (by omega) Q x2 hx2 s1 x S1 h) (Or.inr (Or.inl rfl)) (by decide +kernel) (by decide +kernel) (by decide +kernel) (by decide +kernel) rfl (by (try simp only [ev_sum, ev_nv_cat]); first | done | rfl) ?_
  intro x4 s3 hx4
  replace hx4 := ev_bl_rng hx4
  show ev_w _ _ _ _ _ [.int (Int32.ofInt x4)] _ _ _ _
  refine ev_r_if (pc := 8) (q := .ne) (o := 5) (t := 13) (c := x4 ≠ 0) (by decide +kernel) (ev_k_ne hx4 ev_rng0) (by decide +kernel) ?_ ?_
  · intro c5
    refine ev_r_aload_n (pc := 13) (k := 0) (v := .ref 3) trivial (by decide +kernel) (by rfl) ?_
    refine ev_r_iconst (pc := 14) (k := 0) (by decide +kernel) ?_
    refine ev_r_virt (pc := 15) (y := 108) (mi := 84) (na := 1) (k := 3) (as := [.int (Int32.ofInt 0)]) (rest := []) (encc := ev_oI) (Q := ev_rng) (fun x S1 h => jt_84 d (by omega) Q 0 (by decide) s3 x S1 h) (by exact ev_ob_3) (by decide +kernel) (by decide +kernel) (by decide +kernel) (by decide +kernel) rfl (by (try simp only [ev_sum, ev_nv_cat]); first | done | rfl) ?_
    intro x7 s6 hx7
    show ev_w _ _ _ _ _ [.int (Int32.ofInt x7)] _ _ _ _
    refine ev_r_bipush (pc := 18) (k := 48) (by decide +kernel) (by decide +kernel) ?_
    refine ev_r_isub (pc := 20) (by decide +kernel) ?_
    intro x8 hx8
    refine ev_r_istore_n (pc := 21) (k := 1) (by decide +kernel) (by decide +kernel) rfl ?_
    refine ev_r_aload_n (pc := 22) (k := 0) (v := .ref 3) trivial (by decide +kernel) (by exact (ev_lk_st1 (by rfl) (by decide) rfl)) ?_
    refine ev_r_dup (pc := 23) rfl (by decide +kernel) ?_
    refine ev_r_getI (pc := 24) (y := 63) (ci := 7) (f := 8) (fin := 0) (by decide +kernel) (by decide +kernel) (by exact ev_ob_3) rfl ?_
    intro x9 hx9
    refine ev_r_iconst (pc := 27) (k := 1) (by decide +kernel) ?_
    refine ev_r_iadd (pc := 28) (by decide +kernel) ?_
    intro x10 hx10
    refine ev_r_putI (pc := 29) (y := 63) (ci := 7) (f := 8) hx10 (by decide +kernel) (by decide +kernel) (by exact ev_ob_3) rfl rfl ?_
    intro s11
    refine ev_r_aload_n (pc := 32) (k := 0) (v := .ref 3) trivial (by decide +kernel) (by exact (ev_lk_st1 (by rfl) (by decide) rfl)) ?_
    refine ev_r_iconst (pc := 33) (k := 0) (by decide +kernel) ?_
    refine ev_r_virt (pc := 34) (y := 108) (mi := 84) (na := 1) (k := 3) (as := [.int (Int32.ofInt 0)]) (rest := []) (encc := ev_oI) (Q := ev_rng) (fun x S1 h => jt_84 d (by omega) Q 0 (by decide) s11 x S1 h) (by exact ev_ob_3) (by decide +kernel) (by decide +kernel) (by decide +kernel) (by decide +kernel) rfl (by (try simp only [ev_sum, ev_nv_cat]); first | done | rfl) ?_
    intro x13 s12 hx13
    show ev_w _ _ _ _ _ [.int (Int32.ofInt x13)] _ _ _ _
    refine ev_r_stat (pc := 37) (y := 211) (kind := 5) (mi := 208) (na := 1) (as := [.int (Int32.ofInt x13)]) (rest := []) (encc := ev_oI) (Q := ev_bl) (fun x S1 h => jt_208 d (by omega) Q x13 hx13 s12 x S1 h) (Or.inr (Or.inl rfl)) (by decide +kernel) (by decide +kernel) (by decide +kernel) (by decide +kernel) rfl (by (try simp only [ev_sum, ev_nv_cat]); first | done | rfl) ?_
    intro x15 s14 hx15
    replace hx15 := ev_bl_rng hx15
    show ev_w _ _ _ _ _ [.int (Int32.ofInt x15)] _ _ _ _
    refine ev_r_if (pc := 40) (q := .eq) (o := 27) (t := 67) (c := x15 = 0) (by decide +kernel) (ev_k_eq hx15 ev_rng0) (by decide +kernel) ?_ ?_
    · intro c16
      refine ev_r_iload_n (pc := 67) (k := 1) (v := Int32.ofInt x8) (by decide +kernel) (by exact ev_lk_st1_self) ?_
      exact ev_r_ireturn (pc := 68) (x := x8) (v := Int32.ofInt x8) (ty := .int) hx8 (by decide +kernel) (by decide +kernel) rfl rfl
    · intro c16
      refine ev_r_bipush (pc := 43) (k := 10) (by decide +kernel) (by decide +kernel) ?_
      refine ev_r_iload_n (pc := 45) (k := 1) (v := Int32.ofInt x8) (by decide +kernel) (by exact ev_lk_st1_self) ?_
      refine ev_r_imul (pc := 46) (by decide +kernel) ?_
      intro x17 hx17
      refine ev_r_aload_n (pc := 47) (k := 0) (v := .ref 3) trivial (by decide +kernel) (by exact (ev_lk_st1 (by rfl) (by decide) rfl)) ?_
      refine ev_r_iconst (pc := 48) (k := 0) (by decide +kernel) ?_
      refine ev_r_virt (pc := 49) (y := 108) (mi := 84) (na := 1) (k := 3) (as := [.int (Int32.ofInt 0)]) (rest := [.int (Int32.ofInt x17)]) (encc := ev_oI) (Q := ev_rng) (fun x S1 h => jt_84 d (by omega) Q 0 (by decide) s14 x S1 h) (by exact ev_ob_3) (by decide +kernel) (by decide +kernel) (by decide +kernel) (by decide +kernel) rfl (by (try simp only [ev_sum, ev_nv_cat]); first | done | rfl) ?_
      intro x19 s18 hx19
      show ev_w _ _ _ _ _ [.int (Int32.ofInt x19), .int (Int32.ofInt x17)] _ _ _ _
      refine ev_r_iadd (pc := 52) (by decide +kernel) ?_
      intro x20 hx20
      refine ev_r_bipush (pc := 53) (k := 48) (by decide +kernel) (by decide +kernel) ?_
      refine ev_r_isub (pc := 55) (by decide +kernel) ?_
      intro x21 hx21
      refine ev_r_istore_n (pc := 56) (k := 1) (by decide +kernel) (by decide +kernel) rfl ?_
      refine ev_r_aload_n (pc := 57) (k := 0) (v := .ref 3) trivial (by decide +kernel) (by exact (ev_lk_st1 (ev_lk_st1 (by rfl) (by decide) rfl) (by decide) rfl)) ?_
      refine ev_r_dup (pc := 58) rfl (by decide +kernel) ?_
      refine ev_r_getI (pc := 59) (y := 63) (ci := 7) (f := 8) (fin := 0) (by decide +kernel) (by decide +kernel) (by exact ev_ob_3) rfl ?_
      intro x22 hx22
      refine ev_r_iconst (pc := 62) (k := 1) (by decide +kernel) ?_
      refine ev_r_iadd (pc := 63) (by decide +kernel) ?_
      intro x23 hx23
      refine ev_r_putI (pc := 64) (y := 63) (ci := 7) (f := 8) hx23 (by decide +kernel) (by decide +kernel) (by exact ev_ob_3) rfl rfl ?_
      intro s24
      refine ev_r_iload_n (pc := 67) (k := 1) (v := Int32.ofInt x21) (by decide +kernel) (by exact ev_lk_st1_self) ?_
      exact ev_r_ireturn (pc := 68) (x := x21) (v := Int32.ofInt x21) (ty := .int) hx21 (by decide +kernel) (by decide +kernel) rfl rfl
  · intro c5
    refine ev_r_iconst (pc := 11) (k := -1) (by decide +kernel) ?_
    exact ev_r_ireturn (pc := 12) (x := (-1)) (v := Int32.ofInt ((-1))) (ty := .int) (by decide) (by decide +kernel) (by decide +kernel) rfl rfl
/-- MendBench$Reader.readBounds()Z -/
def jm_94 (Q : Nat)  (S : ev_St) : Option ((Int) × ev_St) := ev_bd (jm_95 Q  S) fun x2 s1 => ev_bd (jm_84 Q 0 s1) fun x4 s3 => ev_jn (fun (x5 : Int) (x6 : Int) (s11 : ev_St) => ev_bd (jm_84 Q 0 s11) fun x13 s12 => ev_jn (fun (x14 : Int) (s19 : ev_St) => ev_b (s19.1 3 8) fun x20 => ev_ck (x20 + 1) fun x21 => ev_b (ev_pI s19 3 8 x21) fun s22 => if x14 = 0 then (some (0, s22)) else (if x5 < 0 then (some (0, s22)) else (if 20 < x5 then (some (0, s22)) else (if x6 ≤ 20 then (ev_jn (fun  (s31 : ev_St) => ev_bd (jm_92 Q x5 x6 s31) fun x33 s32 => if x33 = 0 then (some (0, s32)) else (some (1, s32))) fun K104 => if x6 = (-1) then (K104  s22) else (if x6 < x5 then (some (0, s22)) else (K104  s22))) else (some (0, s22)))))) fun K61 => if x13 ≠ 125 then (K61 0 s12) else (K61 1 s12)) fun K46 => if x4 ≠ 44 then (K46 x2 x2 s3) else (ev_b (s3.1 3 8) fun x39 => ev_ck (x39 + 1) fun x40 => ev_b (ev_pI s3 3 8 x40) fun s41 => ev_bd (jm_84 Q 0 s41) fun x43 s42 => ev_jn (fun (x44 : Int) (s48 : ev_St) => K46 x2 x44 s48) fun K45 => if x43 ≠ 125 then (ev_bd (jm_95 Q  s42) fun x51 s50 => K45 x51 s50) else (K45 ((-1)) s42))
theorem jt_94 (d : Nat) (hd : 4 ≤ d) (Q : Nat)   (S : ev_St) (x : Int) (S' : ev_St) (hJ : jm_94 Q  S = some (x, S')) : ev_Ref d 94 [.ref 3] S (ev_eI x) S' (ev_bl x) := by
  obtain ⟨d, rfl⟩ : ∃ e, d = e + 1 := ⟨d - 1, by omega⟩
  refine ev_ref_of (P := ev_bl) (lv := [(0, .ref 3)]) (by decide +kernel) (by (try simp only [ev_sum, ev_nv_cat]); first | done | rfl) (by (try simp only [lv_args, ev_nv_cat]); first | done | rfl) ?_ x S' hJ
  unfold jm_94
  refine ev_r_aload_n (pc := 0) (k := 0) (v := .ref 3) trivial (by decide +kernel) (by rfl) ?_
  refine ev_r_virt (pc := 1) (y := 207) (mi := 95) (na := 0) (k := 3) (as := []) (rest := []) (encc := ev_oI) (Q := ev_rng) (fun x S1 h => jt_95 d (by omega) Q   S x S1 h) (by exact ev_ob_3) (by decide +kernel) (by decide +kernel) (by decide +kernel) (by decide +kernel) rfl (by (try simp only [ev_sum, ev_nv_cat]); first | done | rfl) ?_
  intro x2 s1 hx2
  show ev_w _ _ _ _ _ [.int (Int32.ofInt x2)] _ _ _ _
  refine ev_r_istore_n (pc := 4) (k := 1) (by decide +kernel) (by decide +kernel) rfl ?_
  refine ev_r_iload_n (pc := 5) (k := 1) (v := Int32.ofInt x2) (by decide +kernel) (by exact ev_lk_st1_self) ?_
  refine ev_r_istore_n (pc := 6) (k := 2) (by decide +kernel) (by decide +kernel) rfl ?_
  refine ev_r_aload_n (pc := 7) (k := 0) (v := .ref 3) trivial (by decide +kernel) (by exact (ev_l1 (ev_lk_st1 (by rfl) (by decide) rfl) (by decide) (by decide))) ?_
  refine ev_r_iconst (pc := 8) (k := 0) (by decide +kernel) ?_
  refine ev_r_virt (pc := 9) (y := 108) (mi := 84) (na := 1) (k := 3) (as := [.int (Int32.ofInt 0)]) (rest := []) (encc := ev_oI) (Q := ev_rng) (fun x S1 h => jt_84 d (by omega) Q 0 (by decide) s1 x S1 h) (by exact ev_ob_3) (by decide +kernel) (by decide +kernel) (by decide +kernel) (by decide +kernel) rfl (by (try simp only [ev_sum, ev_nv_cat]); first | done | rfl) ?_
  intro x4 s3 hx4
  show ev_w _ _ _ _ _ [.int (Int32.ofInt x4)] _ _ _ _
  refine ev_r_bipush (pc := 12) (k := 44) (by decide +kernel) (by decide +kernel) ?_
  refine ev_r_jn (Q := fun K => ∀ (x5 : Int) (hx5 : ev_rng x5), ∀ (x6 : Int) (hx6 : ev_rng x6), ∀ (s11 : ev_St) (w7 : List (Nat × Value)), ev_lk w7 0 = some (.ref 3) → ev_lk w7 1 = some (.int (Int32.ofInt x5)) → ev_lk w7 2 = some (.int (Int32.ofInt x6)) → ev_w none (ev_Mof 94) d 46 w7 [] s11 (K x5 x6 s11) ev_eI ev_bl) ?_ ?_
  · intro x5 hx5 x6 hx6 s11 w7 e8 e9 e10
    refine ev_r_aload_n (pc := 46) (k := 0) (v := .ref 3) trivial (by decide +kernel) (by exact e8) ?_
    refine ev_r_iconst (pc := 47) (k := 0) (by decide +kernel) ?_
    refine ev_r_virt (pc := 48) (y := 108) (mi := 84) (na := 1) (k := 3) (as := [.int (Int32.ofInt 0)]) (rest := []) (encc := ev_oI) (Q := ev_rng) (fun x S1 h => jt_84 d (by omega) Q 0 (by decide) s11 x S1 h) (by exact ev_ob_3) (by decide +kernel) (by decide +kernel) (by decide +kernel) (by decide +kernel) rfl (by (try simp only [ev_sum, ev_nv_cat]); first | done | rfl) ?_
    intro x13 s12 hx13
    show ev_w _ _ _ _ _ [.int (Int32.ofInt x13)] _ _ _ _
    refine ev_r_bipush (pc := 51) (k := 125) (by decide +kernel) (by decide +kernel) ?_
    refine ev_r_jn (Q := fun K => ∀ (x14 : Int) (hx14 : ev_rng x14), ∀ (s19 : ev_St) (w15 : List (Nat × Value)), ev_lk w15 0 = some (.ref 3) → ev_lk w15 1 = some (.int (Int32.ofInt x5)) → ev_lk w15 2 = some (.int (Int32.ofInt x6)) → ev_w none (ev_Mof 94) d 61 w15 [.int (Int32.ofInt x14)] s19 (K x14 s19) ev_eI ev_bl) ?_ ?_
    · intro x14 hx14 s19 w15 e16 e17 e18
      refine ev_r_istore_n (pc := 61) (k := 3) (by decide +kernel) (by decide +kernel) rfl ?_
      refine ev_r_aload_n (pc := 62) (k := 0) (v := .ref 3) trivial (by decide +kernel) (by exact (ev_l1 e16 (by decide) (by decide))) ?_
      refine ev_r_dup (pc := 63) rfl (by decide +kernel) ?_
      refine ev_r_getI (pc := 64) (y := 63) (ci := 7) (f := 8) (fin := 0) (by decide +kernel) (by decide +kernel) (by exact ev_ob_3) rfl ?_
      intro x20 hx20
      refine ev_r_iconst (pc := 67) (k := 1) (by decide +kernel) ?_
      refine ev_r_iadd (pc := 68) (by decide +kernel) ?_
      intro x21 hx21
      refine ev_r_putI (pc := 69) (y := 63) (ci := 7) (f := 8) hx21 (by decide +kernel) (by decide +kernel) (by exact ev_ob_3) rfl rfl ?_
      intro s22
      refine ev_r_iload_n (pc := 72) (k := 3) (v := Int32.ofInt x14) (by decide +kernel) (by exact ev_lk_st1_self) ?_
      refine ev_r_if (pc := 73) (q := .eq) (o := 19) (t := 92) (c := x14 = 0) (by decide +kernel) (ev_k_eq hx14 ev_rng0) (by decide +kernel) ?_ ?_
      · intro c23
        refine ev_r_iconst (pc := 92) (k := 0) (by decide +kernel) ?_
        exact ev_r_ireturn (pc := 93) (x := 0) (v := Int32.ofInt 0) (ty := .boolean) (by decide : ev_bl 0) (by decide +kernel) (by decide +kernel) (ev_ret_bl (by decide : ev_bl 0)) rfl
      · intro c23
        refine ev_r_iload_n (pc := 76) (k := 1) (v := Int32.ofInt x5) (by decide +kernel) (by exact (ev_l1 e17 (by decide) (by decide))) ?_
        refine ev_r_if (pc := 77) (q := .lt) (o := 15) (t := 92) (c := x5 < 0) (by decide +kernel) (ev_k_lt hx5 ev_rng0) (by decide +kernel) ?_ ?_
        · intro c24
          refine ev_r_iconst (pc := 92) (k := 0) (by decide +kernel) ?_
          exact ev_r_ireturn (pc := 93) (x := 0) (v := Int32.ofInt 0) (ty := .boolean) (by decide : ev_bl 0) (by decide +kernel) (by decide +kernel) (ev_ret_bl (by decide : ev_bl 0)) rfl
        · intro c24
          refine ev_r_iload_n (pc := 80) (k := 1) (v := Int32.ofInt x5) (by decide +kernel) (by exact (ev_l1 e17 (by decide) (by decide))) ?_
          refine ev_r_bipush (pc := 81) (k := 20) (by decide +kernel) (by decide +kernel) ?_
          refine ev_r_icmp (pc := 83) (q := .gt) (o := 9) (t := 92) (c := 20 < x5) (by decide +kernel) (ev_k_gt hx5 (by decide)) (by decide +kernel) ?_ ?_
          · intro c25
            refine ev_r_iconst (pc := 92) (k := 0) (by decide +kernel) ?_
            exact ev_r_ireturn (pc := 93) (x := 0) (v := Int32.ofInt 0) (ty := .boolean) (by decide : ev_bl 0) (by decide +kernel) (by decide +kernel) (ev_ret_bl (by decide : ev_bl 0)) rfl
          · intro c25
            refine ev_r_iload_n (pc := 86) (k := 2) (v := Int32.ofInt x6) (by decide +kernel) (by exact (ev_lk_st1 e18 (by decide) rfl)) ?_
            refine ev_r_bipush (pc := 87) (k := 20) (by decide +kernel) (by decide +kernel) ?_
            refine ev_r_icmp (pc := 89) (q := .le) (o := 5) (t := 94) (c := x6 ≤ 20) (by decide +kernel) (ev_k_le hx6 (by decide)) (by decide +kernel) ?_ ?_
            · intro c26
              refine ev_r_iload_n (pc := 94) (k := 2) (v := Int32.ofInt x6) (by decide +kernel) (by exact (ev_lk_st1 e18 (by decide) rfl)) ?_
              refine ev_r_iconst (pc := 95) (k := -1) (by decide +kernel) ?_
              refine ev_r_jn (Q := fun K => ∀ (s31 : ev_St) (w27 : List (Nat × Value)), ev_lk w27 0 = some (.ref 3) → ev_lk w27 1 = some (.int (Int32.ofInt x5)) → ev_lk w27 2 = some (.int (Int32.ofInt x6)) → ev_w none (ev_Mof 94) d 104 w27 [] s31 (K  s31) ev_eI ev_bl) ?_ ?_
              · intro  s31 w27 e28 e29 e30
                refine ev_r_aload_n (pc := 104) (k := 0) (v := .ref 3) trivial (by decide +kernel) (by exact e28) ?_
                refine ev_r_iload_n (pc := 105) (k := 1) (v := Int32.ofInt x5) (by decide +kernel) (by exact e29) ?_
                refine ev_r_iload_n (pc := 106) (k := 2) (v := Int32.ofInt x6) (by decide +kernel) (by exact e30) ?_
                refine ev_r_virt (pc := 107) (y := 121) (mi := 92) (na := 2) (k := 3) (as := [.int (Int32.ofInt x5), .int (Int32.ofInt x6)]) (rest := []) (encc := ev_oI) (Q := ev_bl) (fun x S1 h => jt_92 d (by omega) Q x5 x6 hx5 hx6 s31 x S1 h) (by exact ev_ob_3) (by decide +kernel) (by decide +kernel) (by decide +kernel) (by decide +kernel) rfl (by (try simp only [ev_sum, ev_nv_cat]); first | done | rfl) ?_
                intro x33 s32 hx33
                replace hx33 := ev_bl_rng hx33
                show ev_w _ _ _ _ _ [.int (Int32.ofInt x33)] _ _ _ _
                refine ev_r_if (pc := 110) (q := .eq) (o := 7) (t := 117) (c := x33 = 0) (by decide +kernel) (ev_k_eq hx33 ev_rng0) (by decide +kernel) ?_ ?_
                · intro c34
                  refine ev_r_iconst (pc := 117) (k := 0) (by decide +kernel) ?_
                  exact ev_r_ireturn (pc := 118) (x := 0) (v := Int32.ofInt 0) (ty := .boolean) (by decide : ev_bl 0) (by decide +kernel) (by decide +kernel) (ev_ret_bl (by decide : ev_bl 0)) rfl
                · intro c34
                  refine ev_r_iconst (pc := 113) (k := 1) (by decide +kernel) ?_
                  refine ev_r_goto (pc := 114) (o := 4) (t := 118) (by decide +kernel) (by decide +kernel) ?_
                  exact ev_r_ireturn (pc := 118) (x := 1) (v := Int32.ofInt 1) (ty := .boolean) (by decide : ev_bl 1) (by decide +kernel) (by decide +kernel) (ev_ret_bl (by decide : ev_bl 1)) rfl
              · intro K104 hK104
                refine ev_r_icmp (pc := 96) (q := .eq) (o := 8) (t := 104) (c := x6 = (-1)) (by decide +kernel) (ev_k_eq hx6 (by decide)) (by decide +kernel) ?_ ?_
                · intro c35
                  exact hK104  s22 _ (by exact (ev_l1 e16 (by decide) (by decide))) (by exact (ev_l1 e17 (by decide) (by decide))) (by exact (ev_lk_st1 e18 (by decide) rfl))
                · intro c35
                  refine ev_r_iload_n (pc := 99) (k := 2) (v := Int32.ofInt x6) (by decide +kernel) (by exact (ev_lk_st1 e18 (by decide) rfl)) ?_
                  refine ev_r_iload_n (pc := 100) (k := 1) (v := Int32.ofInt x5) (by decide +kernel) (by exact (ev_l1 e17 (by decide) (by decide))) ?_
                  refine ev_r_icmp (pc := 101) (q := .lt) (o := 16) (t := 117) (c := x6 < x5) (by decide +kernel) (ev_k_lt hx6 hx5) (by decide +kernel) ?_ ?_
                  · intro c36
                    refine ev_r_iconst (pc := 117) (k := 0) (by decide +kernel) ?_
                    exact ev_r_ireturn (pc := 118) (x := 0) (v := Int32.ofInt 0) (ty := .boolean) (by decide : ev_bl 0) (by decide +kernel) (by decide +kernel) (ev_ret_bl (by decide : ev_bl 0)) rfl
                  · intro c36
                    exact hK104  s22 _ (by exact (ev_l1 e16 (by decide) (by decide))) (by exact (ev_l1 e17 (by decide) (by decide))) (by exact (ev_lk_st1 e18 (by decide) rfl))
            · intro c26
              refine ev_r_iconst (pc := 92) (k := 0) (by decide +kernel) ?_
              exact ev_r_ireturn (pc := 93) (x := 0) (v := Int32.ofInt 0) (ty := .boolean) (by decide : ev_bl 0) (by decide +kernel) (by decide +kernel) (ev_ret_bl (by decide : ev_bl 0)) rfl
    · intro K61 hK61
      refine ev_r_icmp (pc := 53) (q := .ne) (o := 7) (t := 60) (c := x13 ≠ 125) (by decide +kernel) (ev_k_ne hx13 (by decide)) (by decide +kernel) ?_ ?_
      · intro c37
        refine ev_r_iconst (pc := 60) (k := 0) (by decide +kernel) ?_
        exact hK61 0 (by decide) s12 _ (by exact e8) (by exact e9) (by exact e10)
      · intro c37
        refine ev_r_iconst (pc := 56) (k := 1) (by decide +kernel) ?_
        refine ev_r_goto (pc := 57) (o := 4) (t := 61) (by decide +kernel) (by decide +kernel) ?_
        exact hK61 1 (by decide) s12 _ (by exact e8) (by exact e9) (by exact e10)
  · intro K46 hK46
    refine ev_r_icmp (pc := 14) (q := .ne) (o := 32) (t := 46) (c := x4 ≠ 44) (by decide +kernel) (ev_k_ne hx4 (by decide)) (by decide +kernel) ?_ ?_
    · intro c38
      exact hK46 x2 hx2 x2 hx2 s3 _ (by exact (ev_l1 (ev_lk_st1 (by rfl) (by decide) rfl) (by decide) (by decide))) (by exact (ev_lk_st1 ev_lk_st1_self (by decide) rfl)) (by exact ev_lk_st1_self)
    · intro c38
      refine ev_r_aload_n (pc := 17) (k := 0) (v := .ref 3) trivial (by decide +kernel) (by exact (ev_l1 (ev_lk_st1 (by rfl) (by decide) rfl) (by decide) (by decide))) ?_
      refine ev_r_dup (pc := 18) rfl (by decide +kernel) ?_
      refine ev_r_getI (pc := 19) (y := 63) (ci := 7) (f := 8) (fin := 0) (by decide +kernel) (by decide +kernel) (by exact ev_ob_3) rfl ?_
      intro x39 hx39
      refine ev_r_iconst (pc := 22) (k := 1) (by decide +kernel) ?_
      refine ev_r_iadd (pc := 23) (by decide +kernel) ?_
      intro x40 hx40
      refine ev_r_putI (pc := 24) (y := 63) (ci := 7) (f := 8) hx40 (by decide +kernel) (by decide +kernel) (by exact ev_ob_3) rfl rfl ?_
      intro s41
      refine ev_r_aload_n (pc := 27) (k := 0) (v := .ref 3) trivial (by decide +kernel) (by exact (ev_l1 (ev_lk_st1 (by rfl) (by decide) rfl) (by decide) (by decide))) ?_
      refine ev_r_iconst (pc := 28) (k := 0) (by decide +kernel) ?_
      refine ev_r_virt (pc := 29) (y := 108) (mi := 84) (na := 1) (k := 3) (as := [.int (Int32.ofInt 0)]) (rest := []) (encc := ev_oI) (Q := ev_rng) (fun x S1 h => jt_84 d (by omega) Q 0 (by decide) s41 x S1 h) (by exact ev_ob_3) (by decide +kernel) (by decide +kernel) (by decide +kernel) (by decide +kernel) rfl (by (try simp only [ev_sum, ev_nv_cat]); first | done | rfl) ?_
      intro x43 s42 hx43
      show ev_w _ _ _ _ _ [.int (Int32.ofInt x43)] _ _ _ _
      refine ev_r_bipush (pc := 32) (k := 125) (by decide +kernel) (by decide +kernel) ?_
      refine ev_r_jn (Q := fun K => ∀ (x44 : Int) (hx44 : ev_rng x44), ∀ (s48 : ev_St) (w45 : List (Nat × Value)), ev_lk w45 0 = some (.ref 3) → ev_lk w45 1 = some (.int (Int32.ofInt x2)) → ev_w none (ev_Mof 94) d 45 w45 [.int (Int32.ofInt x44)] s48 (K x44 s48) ev_eI ev_bl) ?_ ?_
      · intro x44 hx44 s48 w45 e46 e47
        refine ev_r_istore_n (pc := 45) (k := 2) (by decide +kernel) (by decide +kernel) rfl ?_
        exact hK46 x2 hx2 x44 hx44 s48 _ (by exact (ev_l1 e46 (by decide) (by decide))) (by exact (ev_lk_st1 e47 (by decide) rfl)) (by exact ev_lk_st1_self)
      · intro K45 hK45
        refine ev_r_icmp (pc := 34) (q := .ne) (o := 7) (t := 41) (c := x43 ≠ 125) (by decide +kernel) (ev_k_ne hx43 (by decide)) (by decide +kernel) ?_ ?_
        · intro c49
          refine ev_r_aload_n (pc := 41) (k := 0) (v := .ref 3) trivial (by decide +kernel) (by exact (ev_l1 (ev_lk_st1 (by rfl) (by decide) rfl) (by decide) (by decide))) ?_
          refine ev_r_virt (pc := 42) (y := 207) (mi := 95) (na := 0) (k := 3) (as := []) (rest := []) (encc := ev_oI) (Q := ev_rng) (fun x S1 h => jt_95 d (by omega) Q   s42 x S1 h) (by exact ev_ob_3) (by decide +kernel) (by decide +kernel) (by decide +kernel) (by decide +kernel) rfl (by (try simp only [ev_sum, ev_nv_cat]); first | done | rfl) ?_
          intro x51 s50 hx51
          show ev_w _ _ _ _ _ [.int (Int32.ofInt x51)] _ _ _ _
          exact hK45 x51 hx51 s50 _ (by exact (ev_l1 (ev_lk_st1 (by rfl) (by decide) rfl) (by decide) (by decide))) (by exact (ev_lk_st1 ev_lk_st1_self (by decide) rfl))
        · intro c49
          refine ev_r_iconst (pc := 37) (k := -1) (by decide +kernel) ?_
          refine ev_r_goto (pc := 38) (o := 7) (t := 45) (by decide +kernel) (by decide +kernel) ?_
          exact hK45 ((-1)) (by decide) s42 _ (by exact (ev_l1 (ev_lk_st1 (by rfl) (by decide) rfl) (by decide) (by decide))) (by exact (ev_lk_st1 ev_lk_st1_self (by decide) rfl))
/-- MendBench$Reader.isOn(I)Z -/
def jm_86 (Q : Nat) (a0 : Int) (S : ev_St) : Option ((Int) × ev_St) := ev_b (S.1 3 11) fun x1 => ev_b (ev_iand x1 a0) fun x2 => if x2 = 0 then (some (0, S)) else (some (1, S))
theorem jt_86 (d : Nat) (hd : 1 ≤ d) (Q : Nat) (a0 : Int) (ha0 : ev_rng a0) (S : ev_St) (x : Int) (S' : ev_St) (hJ : jm_86 Q a0 S = some (x, S')) : ev_Ref d 86 [.ref 3, .int (Int32.ofInt a0)] S (ev_eI x) S' (ev_bl x) := by
  obtain ⟨d, rfl⟩ : ∃ e, d = e + 1 := ⟨d - 1, by omega⟩
  refine ev_ref_of (P := ev_bl) (lv := [(0, .ref 3), (1, .int (Int32.ofInt a0))]) (by decide +kernel) (by (try simp only [ev_sum, ev_nv_cat]); first | done | rfl) (by (try simp only [lv_args, ev_nv_cat]); first | done | rfl) ?_ x S' hJ
  unfold jm_86
  refine ev_r_aload_n (pc := 0) (k := 0) (v := .ref 3) trivial (by decide +kernel) (by rfl) ?_
  refine ev_r_getI (pc := 1) (y := 72) (ci := 7) (f := 11) (fin := 0) (by decide +kernel) (by decide +kernel) (by exact ev_ob_3) rfl ?_
  intro x1 hx1
  refine ev_r_iload_n (pc := 4) (k := 1) (v := Int32.ofInt a0) (by decide +kernel) (by rfl) ?_
  refine ev_r_iand (pc := 5) (by decide +kernel) ?_
  intro x2 hx2
  refine ev_r_if (pc := 6) (q := .eq) (o := 7) (t := 13) (c := x2 = 0) (by decide +kernel) (ev_k_eq hx2 ev_rng0) (by decide +kernel) ?_ ?_
  · intro c3
    refine ev_r_iconst (pc := 13) (k := 0) (by decide +kernel) ?_
    exact ev_r_ireturn (pc := 14) (x := 0) (v := Int32.ofInt 0) (ty := .boolean) (by decide : ev_bl 0) (by decide +kernel) (by decide +kernel) (ev_ret_bl (by decide : ev_bl 0)) rfl
  · intro c3
    refine ev_r_iconst (pc := 9) (k := 1) (by decide +kernel) ?_
    refine ev_r_goto (pc := 10) (o := 4) (t := 14) (by decide +kernel) (by decide +kernel) ?_
    exact ev_r_ireturn (pc := 14) (x := 1) (v := Int32.ofInt 1) (ty := .boolean) (by decide : ev_bl 1) (by decide +kernel) (by decide +kernel) (ev_ret_bl (by decide : ev_bl 1)) rfl
/-- MendBench$Reader.addSigns(JJ)Z -/
def jm_90 (Q : Nat) (a0 : Int64) (a1 : Int64) (S : ev_St) : Option ((Int) × ev_St) := ev_bd (jm_87 Q  S) fun x2 s1 => ev_jn (fun (x3 : Int) (s8 : ev_St) => ev_b (s8.2.2.1 3 9) fun r9 => ev_if (r9 ≠ 0) (ev_bd (jm_59 Q ((r9 - 1)) x3 s8) fun x12 s11 => if x12 ≠ 0 then (ev_b (s11.2.2.1 3 9) fun r14 => ev_if (r14 ≠ 0) (ev_if ((0 : Int) ≤ x3 ∧ x3 < (ev_aln (((r14 - 1) + 8)) : Int)) (ev_b (ev_pL s11 (((r14 - 1) + 8)) (Int.toNat x3) a0) fun s16 => ev_b (s16.2.2.1 3 9) fun r17 => ev_if (r17 ≠ 0) (ev_if ((0 : Int) ≤ x3 ∧ x3 < (ev_aln (((r17 - 1) + 9)) : Int)) (ev_b (ev_pL s16 (((r17 - 1) + 9)) (Int.toNat x3) a1) fun s19 => ev_b (ev_pI s19 3 13 1) fun s20 => ev_bd (jm_91 Q x3 s20) fun x22 s21 => ev_if (ev_bl x22) (some (x22, s21))))))) else (some (0, s11)))) fun K21 => if x2 = 0 then (K21 ((-1)) s1) else (ev_b (s1.2.2.1 3 9) fun r25 => ev_if (r25 ≠ 0) (ev_bd (jm_58 Q ((r25 - 1)) 0 0 0 s1) fun x28 s27 => K21 x28 s27))
theorem jt_90 (d : Nat) (hd : 3 ≤ d) (Q : Nat) (a0 : Int64) (a1 : Int64)  (S : ev_St) (x : Int) (S' : ev_St) (hJ : jm_90 Q a0 a1 S = some (x, S')) : ev_Ref d 90 [.ref 3, .long a0, .long a1] S (ev_eI x) S' (ev_bl x) := by
  obtain ⟨d, rfl⟩ : ∃ e, d = e + 1 := ⟨d - 1, by omega⟩
  refine ev_ref_of (P := ev_bl) (lv := [(0, .ref 3), (1, .long a0), (3, .long a1)]) (by decide +kernel) (by (try simp only [ev_sum, ev_nv_cat]); first | done | rfl) (by (try simp only [lv_args, ev_nv_cat]); first | done | rfl) ?_ x S' hJ
  unfold jm_90
  refine ev_r_aload_n (pc := 0) (k := 0) (v := .ref 3) trivial (by decide +kernel) (by rfl) ?_
  refine ev_r_virt (pc := 1) (y := 162) (mi := 87) (na := 0) (k := 3) (as := []) (rest := []) (encc := ev_oI) (Q := ev_bl) (fun x S1 h => jt_87 d (by omega) Q   S x S1 h) (by exact ev_ob_3) (by decide +kernel) (by decide +kernel) (by decide +kernel) (by decide +kernel) rfl (by (try simp only [ev_sum, ev_nv_cat]); first | done | rfl) ?_
  intro x2 s1 hx2
  replace hx2 := ev_bl_rng hx2
  show ev_w _ _ _ _ _ [.int (Int32.ofInt x2)] _ _ _ _
  refine ev_r_jn (Q := fun K => ∀ (x3 : Int) (hx3 : ev_rng x3), ∀ (s8 : ev_St) (w4 : List (Nat × Value)), ev_lk w4 0 = some (.ref 3) → ev_lk w4 1 = some (.long a0) → ev_lk w4 3 = some (.long a1) → ev_w none (ev_Mof 90) d 21 w4 [.int (Int32.ofInt x3)] s8 (K x3 s8) ev_eI ev_bl) ?_ ?_
  · intro x3 hx3 s8 w4 e5 e6 e7
    refine ev_r_istore (pc := 21) (k := 5) (by decide +kernel) (by decide +kernel) rfl ?_
    refine ev_r_aload_n (pc := 23) (k := 0) (v := .ref 3) trivial (by decide +kernel) (by exact (ev_l1 e5 (by decide) (by decide))) ?_
    refine ev_r_getR (pc := 24) (y := 55) (ci := 7) (f := 9) (fin := 0) (t := 5) (by decide +kernel) (by decide +kernel) (by exact ev_ob_3) rfl rfl ?_
    intro r9 hr9
    have hr9 : r9 = 0 ∨ ev_isOb (r9 - 1) 5 = true := hr9
    refine ev_r_iload (pc := 27) (k := 5) (v := Int32.ofInt x3) (by decide +kernel) (by exact ev_lk_st1_self) ?_
    refine ev_r_chk ?_
    intro c10
    refine ev_r_dr (r := r9) (fun v => [.int (Int32.ofInt x3), v]) c10 ?_
    refine ev_r_virt (pc := 29) (y := 179) (mi := 59) (na := 1) (k := (r9 - 1)) (as := [.int (Int32.ofInt x3)]) (rest := []) (encc := ev_oI) (Q := ev_bl) (fun x S1 h => jt_59 d (by omega) Q ((r9 - 1)) x3 (hr9.resolve_left c10) hx3 s8 x S1 h) (by exact (hr9.resolve_left c10)) (by decide +kernel) (by decide +kernel) (by decide +kernel) (by decide +kernel) rfl (by (try simp only [ev_sum, ev_nv_cat]); first | done | rfl) ?_
    intro x12 s11 hx12
    replace hx12 := ev_bl_rng hx12
    show ev_w _ _ _ _ _ [.int (Int32.ofInt x12)] _ _ _ _
    refine ev_r_if (pc := 32) (q := .ne) (o := 5) (t := 37) (c := x12 ≠ 0) (by decide +kernel) (ev_k_ne hx12 ev_rng0) (by decide +kernel) ?_ ?_
    · intro c13
      refine ev_r_aload_n (pc := 37) (k := 0) (v := .ref 3) trivial (by decide +kernel) (by exact (ev_l1 e5 (by decide) (by decide))) ?_
      refine ev_r_getR (pc := 38) (y := 55) (ci := 7) (f := 9) (fin := 0) (t := 5) (by decide +kernel) (by decide +kernel) (by exact ev_ob_3) rfl rfl ?_
      intro r14 hr14
      have hr14 : r14 = 0 ∨ ev_isOb (r14 - 1) 5 = true := hr14
      refine ev_r_chk ?_
      intro c15
      refine ev_r_dr (r := r14) (fun v => [v]) c15 ?_
      refine ev_r_getC (pc := 41) (y := 182) (ci := 5) (f := 7) (fin := 2) (k' := ((r14 - 1) + 8)) (by decide +kernel) (by decide +kernel) (by exact (hr14.resolve_left c15)) rfl rfl ?_
      refine ev_r_iload (pc := 44) (k := 5) (v := Int32.ofInt x3) (by decide +kernel) (by exact ev_lk_st1_self) ?_
      refine ev_r_lload_n (pc := 46) (k := 1) (v := a0) (by decide +kernel) (by exact (ev_l1 e6 (by decide) (by decide))) ?_
      refine ev_r_last (pc := 47) hx3 (by decide +kernel) (by exact (ev_fo_5_7 (hr14.resolve_left c15))) ?_
      intro s16
      refine ev_r_aload_n (pc := 48) (k := 0) (v := .ref 3) trivial (by decide +kernel) (by exact (ev_l1 e5 (by decide) (by decide))) ?_
      refine ev_r_getR (pc := 49) (y := 55) (ci := 7) (f := 9) (fin := 0) (t := 5) (by decide +kernel) (by decide +kernel) (by exact ev_ob_3) rfl rfl ?_
      intro r17 hr17
      have hr17 : r17 = 0 ∨ ev_isOb (r17 - 1) 5 = true := hr17
      refine ev_r_chk ?_
      intro c18
      refine ev_r_dr (r := r17) (fun v => [v]) c18 ?_
      refine ev_r_getC (pc := 52) (y := 186) (ci := 5) (f := 8) (fin := 2) (k' := ((r17 - 1) + 9)) (by decide +kernel) (by decide +kernel) (by exact (hr17.resolve_left c18)) rfl rfl ?_
      refine ev_r_iload (pc := 55) (k := 5) (v := Int32.ofInt x3) (by decide +kernel) (by exact ev_lk_st1_self) ?_
      refine ev_r_lload_n (pc := 57) (k := 3) (v := a1) (by decide +kernel) (by exact (ev_l1 e7 (by decide) (by decide))) ?_
      refine ev_r_last (pc := 58) hx3 (by decide +kernel) (by exact (ev_fo_5_8 (hr17.resolve_left c18))) ?_
      intro s19
      refine ev_r_aload_n (pc := 59) (k := 0) (v := .ref 3) trivial (by decide +kernel) (by exact (ev_l1 e5 (by decide) (by decide))) ?_
      refine ev_r_iconst (pc := 60) (k := 1) (by decide +kernel) ?_
      refine ev_r_putI (pc := 61) (y := 165) (ci := 7) (f := 13) (by decide) (by decide +kernel) (by decide +kernel) (by exact ev_ob_3) rfl (ev_fit_bl (by decide : ev_bl 1)) ?_
      intro s20
      refine ev_r_aload_n (pc := 64) (k := 0) (v := .ref 3) trivial (by decide +kernel) (by exact (ev_l1 e5 (by decide) (by decide))) ?_
      refine ev_r_iload (pc := 65) (k := 5) (v := Int32.ofInt x3) (by decide +kernel) (by exact ev_lk_st1_self) ?_
      refine ev_r_virt (pc := 67) (y := 172) (mi := 91) (na := 1) (k := 3) (as := [.int (Int32.ofInt x3)]) (rest := []) (encc := ev_oI) (Q := ev_bl) (fun x S1 h => jt_91 d (by omega) Q x3 hx3 s20 x S1 h) (by exact ev_ob_3) (by decide +kernel) (by decide +kernel) (by decide +kernel) (by decide +kernel) rfl (by (try simp only [ev_sum, ev_nv_cat]); first | done | rfl) ?_
      intro x22 s21 hx22
      replace hx22 := ev_bl_rng hx22
      show ev_w _ _ _ _ _ [.int (Int32.ofInt x22)] _ _ _ _
      refine ev_r_chk ?_
      intro c23
      exact ev_r_ireturn (pc := 70) (x := x22) (v := Int32.ofInt x22) (ty := .boolean) c23 (by decide +kernel) (by decide +kernel) (ev_ret_bl c23) rfl
    · intro c13
      refine ev_r_iconst (pc := 35) (k := 0) (by decide +kernel) ?_
      exact ev_r_ireturn (pc := 36) (x := 0) (v := Int32.ofInt 0) (ty := .boolean) (by decide : ev_bl 0) (by decide +kernel) (by decide +kernel) (ev_ret_bl (by decide : ev_bl 0)) rfl
  · intro K21 hK21
    refine ev_r_if (pc := 4) (q := .eq) (o := 16) (t := 20) (c := x2 = 0) (by decide +kernel) (ev_k_eq hx2 ev_rng0) (by decide +kernel) ?_ ?_
    · intro c24
      refine ev_r_iconst (pc := 20) (k := -1) (by decide +kernel) ?_
      exact hK21 ((-1)) (by decide) s1 _ (by rfl) (by rfl) (by rfl)
    · intro c24
      refine ev_r_aload_n (pc := 7) (k := 0) (v := .ref 3) trivial (by decide +kernel) (by rfl) ?_
      refine ev_r_getR (pc := 8) (y := 55) (ci := 7) (f := 9) (fin := 0) (t := 5) (by decide +kernel) (by decide +kernel) (by exact ev_ob_3) rfl rfl ?_
      intro r25 hr25
      have hr25 : r25 = 0 ∨ ev_isOb (r25 - 1) 5 = true := hr25
      refine ev_r_iconst (pc := 11) (k := 0) (by decide +kernel) ?_
      refine ev_r_iconst (pc := 12) (k := 0) (by decide +kernel) ?_
      refine ev_r_iconst (pc := 13) (k := 0) (by decide +kernel) ?_
      refine ev_r_chk ?_
      intro c26
      refine ev_r_dr (r := r25) (fun v => [.int (Int32.ofInt 0), .int (Int32.ofInt 0), .int (Int32.ofInt 0), v]) c26 ?_
      refine ev_r_virt (pc := 14) (y := 168) (mi := 58) (na := 3) (k := (r25 - 1)) (as := [.int (Int32.ofInt 0), .int (Int32.ofInt 0), .int (Int32.ofInt 0)]) (rest := []) (encc := ev_oI) (Q := ev_rng) (fun x S1 h => jt_58 d (by omega) Q ((r25 - 1)) 0 0 0 (hr25.resolve_left c26) (by decide) (by decide) (by decide) s1 x S1 h) (by exact (hr25.resolve_left c26)) (by decide +kernel) (by decide +kernel) (by decide +kernel) (by decide +kernel) rfl (by (try simp only [ev_sum, ev_nv_cat]); first | done | rfl) ?_
      intro x28 s27 hx28
      show ev_w _ _ _ _ _ [.int (Int32.ofInt x28)] _ _ _ _
      refine ev_r_goto (pc := 17) (o := 4) (t := 21) (by decide +kernel) (by decide +kernel) ?_
      exact hK21 x28 hx28 s27 _ (by rfl) (by rfl) (by rfl)
/-- MendBench$Reader.addSign(I)Z -/
def jm_89 (Q : Nat) (a0 : Int) (S : ev_St) : Option ((Int) × ev_St) := ev_b (ev_iand a0 63) fun x1 => ev_b (ev_lshl ((Int64.ofNat ((1 : Fin 2) : Nat))) x1) fun y2 => ev_jn (fun (y3 : Int64) (y4 : Int64) (s9 : ev_St) => ev_jn (fun (y10 : Int64) (y11 : Int64) (s15 : ev_St) => ev_bd (jm_86 Q 1 s15) fun x17 s16 => ev_jn (fun (y19 : Int64) (y18 : Int64) (s21 : ev_St) => ev_bd (jm_90 Q y18 y19 s21) fun x23 s22 => ev_if (ev_bl x23) (some (x23, s22))) fun K50 => if x17 = 0 then (K50 y10 y11 s16) else (ev_bd (jm_215 Q y10 s16) fun y27 s26 => K50 y27 y11 s26)) fun K32 => if 64 ≤ a0 then (K32 y4 ((Int64.ofNat ((0 : Fin 2) : Nat))) s9) else (K32 y4 y3 s9)) fun K18 => if 64 ≤ a0 then (K18 y2 y2 S) else (K18 y2 ((Int64.ofNat ((0 : Fin 2) : Nat))) S)
theorem jt_89 (d : Nat) (hd : 4 ≤ d) (Q : Nat) (a0 : Int) (ha0 : ev_rng a0) (S : ev_St) (x : Int) (S' : ev_St) (hJ : jm_89 Q a0 S = some (x, S')) : ev_Ref d 89 [.ref 3, .int (Int32.ofInt a0)] S (ev_eI x) S' (ev_bl x) := by
  obtain ⟨d, rfl⟩ : ∃ e, d = e + 1 := ⟨d - 1, by omega⟩
  refine ev_ref_of (P := ev_bl) (lv := [(0, .ref 3), (1, .int (Int32.ofInt a0))]) (by decide +kernel) (by (try simp only [ev_sum, ev_nv_cat]); first | done | rfl) (by (try simp only [lv_args, ev_nv_cat]); first | done | rfl) ?_ x S' hJ
  unfold jm_89
  refine ev_r_lconst (pc := 0) (c := 1) (by decide +kernel) ?_
  refine ev_r_iload_n (pc := 1) (k := 1) (v := Int32.ofInt a0) (by decide +kernel) (by rfl) ?_
  refine ev_r_bipush (pc := 2) (k := 63) (by decide +kernel) (by decide +kernel) ?_
  refine ev_r_iand (pc := 4) (by decide +kernel) ?_
  intro x1 hx1
  refine ev_r_toL (pc := 5) (i := .lshl) (len := 1) (pc' := 6) (by decide +kernel) rfl ?_
  intro y2
  refine ev_r_lstore_n (pc := 6) (k := 2) (by decide +kernel) (by decide +kernel) rfl ?_
  refine ev_r_iload_n (pc := 7) (k := 1) (v := Int32.ofInt a0) (by decide +kernel) (by exact (ev_l2 (by rfl) (by decide) (by decide) (Or.inr rfl))) ?_
  refine ev_r_bipush (pc := 8) (k := 64) (by decide +kernel) (by decide +kernel) ?_
  refine ev_r_jn (Q := fun K => ∀ (y3 : Int64), ∀ (y4 : Int64), ∀ (s9 : ev_St) (w5 : List (Nat × Value)), ev_lk w5 0 = some (.ref 3) → ev_lk w5 1 = some (.int (Int32.ofInt a0)) → ev_lk w5 2 = some (.long y3) → ev_w none (ev_Mof 89) d 18 w5 [.long y4] s9 (K y3 y4 s9) ev_eI ev_bl) ?_ ?_
  · intro y3 y4 s9 w5 e6 e7 e8
    refine ev_r_lstore (pc := 18) (k := 4) (by decide +kernel) (by decide +kernel) rfl ?_
    refine ev_r_aload_n (pc := 20) (k := 0) (v := .ref 3) trivial (by decide +kernel) (by exact (ev_l2 e6 (by decide) (by decide) (Or.inl (by decide)))) ?_
    refine ev_r_iload_n (pc := 21) (k := 1) (v := Int32.ofInt a0) (by decide +kernel) (by exact (ev_l2 e7 (by decide) (by decide) (Or.inl (by decide)))) ?_
    refine ev_r_bipush (pc := 22) (k := 64) (by decide +kernel) (by decide +kernel) ?_
    refine ev_r_jn (Q := fun K => ∀ (y10 : Int64), ∀ (y11 : Int64), ∀ (s15 : ev_St) (w12 : List (Nat × Value)), ev_lk w12 0 = some (.ref 3) → ev_lk w12 4 = some (.long y10) → ev_w none (ev_Mof 89) d 32 w12 [.long y11, .ref 3] s15 (K y10 y11 s15) ev_eI ev_bl) ?_ ?_
    · intro y10 y11 s15 w12 e13 e14
      refine ev_r_aload_n (pc := 32) (k := 0) (v := .ref 3) trivial (by decide +kernel) (by exact e13) ?_
      refine ev_r_iconst (pc := 33) (k := 1) (by decide +kernel) ?_
      refine ev_r_virt (pc := 34) (y := 128) (mi := 86) (na := 1) (k := 3) (as := [.int (Int32.ofInt 1)]) (rest := [.long y11, .ref 3]) (encc := ev_oI) (Q := ev_bl) (fun x S1 h => jt_86 d (by omega) Q 1 (by decide) s15 x S1 h) (by exact ev_ob_3) (by decide +kernel) (by decide +kernel) (by decide +kernel) (by decide +kernel) rfl (by (try simp only [ev_sum, ev_nv_cat]); first | done | rfl) ?_
      intro x17 s16 hx17
      replace hx17 := ev_bl_rng hx17
      show ev_w _ _ _ _ _ [.int (Int32.ofInt x17), .long y11, .ref 3] _ _ _ _
      refine ev_r_jn (Q := fun K => ∀ (y19 : Int64), ∀ (y18 : Int64), ∀ (s21 : ev_St) (w20 : List (Nat × Value)), ev_w none (ev_Mof 89) d 50 w20 [.long y19, .long y18, .ref 3] s21 (K y19 y18 s21) ev_eI ev_bl) ?_ ?_
      · intro y19 y18 s21 w20 
        refine ev_r_virt (pc := 50) (y := 142) (mi := 90) (na := 2) (k := 3) (as := [.long y18, .long y19]) (rest := []) (encc := ev_oI) (Q := ev_bl) (fun x S1 h => jt_90 d (by omega) Q y18 y19  s21 x S1 h) (by exact ev_ob_3) (by decide +kernel) (by decide +kernel) (by decide +kernel) (by decide +kernel) rfl (by (try simp only [ev_sum, ev_nv_cat]); first | done | rfl) ?_
        intro x23 s22 hx23
        replace hx23 := ev_bl_rng hx23
        show ev_w _ _ _ _ _ [.int (Int32.ofInt x23)] _ _ _ _
        refine ev_r_chk ?_
        intro c24
        exact ev_r_ireturn (pc := 53) (x := x23) (v := Int32.ofInt x23) (ty := .boolean) c24 (by decide +kernel) (by decide +kernel) (ev_ret_bl c24) rfl
      · intro K50 hK50
        refine ev_r_if (pc := 37) (q := .eq) (o := 11) (t := 48) (c := x17 = 0) (by decide +kernel) (ev_k_eq hx17 ev_rng0) (by decide +kernel) ?_ ?_
        · intro c25
          refine ev_r_lload (pc := 48) (k := 4) (v := y10) (by decide +kernel) (by exact e14) ?_
          exact hK50 y10 y11 s16 _ 
        · intro c25
          refine ev_r_lload (pc := 40) (k := 4) (v := y10) (by decide +kernel) (by exact e14) ?_
          refine ev_r_stat (pc := 42) (y := 175) (kind := 5) (mi := 215) (na := 1) (as := [.long y10]) (rest := [.long y11, .ref 3]) (encc := ev_oL) (Q := ev_PU) (fun x S1 h => jt_215 d (by omega) Q y10  s16 x S1 h) (Or.inr (Or.inl rfl)) (by decide +kernel) (by decide +kernel) (by decide +kernel) (by decide +kernel) rfl (by (try simp only [ev_sum, ev_nv_cat]); first | done | rfl) ?_
          intro y27 s26 _
          show ev_w _ _ _ _ _ [.long y27, .long y11, .ref 3] _ _ _ _
          refine ev_r_goto (pc := 45) (o := 5) (t := 50) (by decide +kernel) (by decide +kernel) ?_
          exact hK50 y27 y11 s26 _ 
    · intro K32 hK32
      refine ev_r_icmp (pc := 24) (q := .ge) (o := 7) (t := 31) (c := 64 ≤ a0) (by decide +kernel) (ev_k_ge ha0 (by decide)) (by decide +kernel) ?_ ?_
      · intro c28
        refine ev_r_lconst (pc := 31) (c := 0) (by decide +kernel) ?_
        exact hK32 y4 ((Int64.ofNat ((0 : Fin 2) : Nat))) s9 _ (by exact (ev_l2 e6 (by decide) (by decide) (Or.inl (by decide)))) (by exact ev_l2s)
      · intro c28
        refine ev_r_lload_n (pc := 27) (k := 2) (v := y3) (by decide +kernel) (by exact (ev_l2 e8 (by decide) (by decide) (Or.inl (by decide)))) ?_
        refine ev_r_goto (pc := 28) (o := 4) (t := 32) (by decide +kernel) (by decide +kernel) ?_
        exact hK32 y4 y3 s9 _ (by exact (ev_l2 e6 (by decide) (by decide) (Or.inl (by decide)))) (by exact ev_l2s)
  · intro K18 hK18
    refine ev_r_icmp (pc := 10) (q := .ge) (o := 7) (t := 17) (c := 64 ≤ a0) (by decide +kernel) (ev_k_ge ha0 (by decide)) (by decide +kernel) ?_ ?_
    · intro c29
      refine ev_r_lload_n (pc := 17) (k := 2) (v := y2) (by decide +kernel) (by exact ev_l2s) ?_
      exact hK18 y2 y2 S _ (by exact (ev_l2 (by rfl) (by decide) (by decide) (Or.inl (by decide)))) (by exact (ev_l2 (by rfl) (by decide) (by decide) (Or.inr rfl))) (by exact ev_l2s)
    · intro c29
      refine ev_r_lconst (pc := 13) (c := 0) (by decide +kernel) ?_
      refine ev_r_goto (pc := 14) (o := 4) (t := 18) (by decide +kernel) (by decide +kernel) ?_
      exact hK18 y2 ((Int64.ofNat ((0 : Fin 2) : Nat))) S _ (by exact (ev_l2 (by rfl) (by decide) (by decide) (Or.inl (by decide)))) (by exact (ev_l2 (by rfl) (by decide) (by decide) (Or.inr rfl))) (by exact ev_l2s)
/-- MendBench$Reader.readName()Z -/
def jm_97 (Q : Nat)  (S : ev_St) : Option ((Int) × ev_St) := ev_bd (jm_84 Q 1 S) fun x2 s1 => ev_bd (jm_84 Q 0 s1) fun x4 s3 => if x4 ≠ 60 then (some (0, s3)) else (ev_bd (jm_209 Q x2 s3) fun x7 s6 => if x7 = 0 then (some (0, s6)) else (ev_bd (jm_84 Q 2 s6) fun x10 s9 => if x10 = 62 then (ev_b (s9.1 3 8) fun x12 => ev_ck (x12 + 3) fun x13 => ev_b (ev_pI s9 3 8 x13) fun s14 => ev_ck (x2 - 97) fun x15 => ev_ck (-x15) fun x16 => ev_ck (x16 - 1) fun x17 => ev_bd (jm_86 Q 1 s14) fun x19 s18 => ev_jn (fun (x22 : Int) (x21 : Int) (x20 : Int) (s24 : ev_St) => ev_bd (jm_88 Q x20 x21 x22 s24) fun x26 s25 => ev_if (ev_bl x26) (some (x26, s25))) fun K68 => if x19 = 0 then (K68 0 x17 7 s18) else (K68 1 x17 7 s18)) else (some (0, s9))))
theorem jt_97 (d : Nat) (hd : 4 ≤ d) (Q : Nat)   (S : ev_St) (x : Int) (S' : ev_St) (hJ : jm_97 Q  S = some (x, S')) : ev_Ref d 97 [.ref 3] S (ev_eI x) S' (ev_bl x) := by
  obtain ⟨d, rfl⟩ : ∃ e, d = e + 1 := ⟨d - 1, by omega⟩
  refine ev_ref_of (P := ev_bl) (lv := [(0, .ref 3)]) (by decide +kernel) (by (try simp only [ev_sum, ev_nv_cat]); first | done | rfl) (by (try simp only [lv_args, ev_nv_cat]); first | done | rfl) ?_ x S' hJ
  unfold jm_97
  refine ev_r_aload_n (pc := 0) (k := 0) (v := .ref 3) trivial (by decide +kernel) (by rfl) ?_
  refine ev_r_iconst (pc := 1) (k := 1) (by decide +kernel) ?_
  refine ev_r_virt (pc := 2) (y := 108) (mi := 84) (na := 1) (k := 3) (as := [.int (Int32.ofInt 1)]) (rest := []) (encc := ev_oI) (Q := ev_rng) (fun x S1 h => jt_84 d (by omega) Q 1 (by decide) S x S1 h) (by exact ev_ob_3) (by decide +kernel) (by decide +kernel) (by decide +kernel) (by decide +kernel) rfl (by (try simp only [ev_sum, ev_nv_cat]); first | done | rfl) ?_
  intro x2 s1 hx2
  show ev_w _ _ _ _ _ [.int (Int32.ofInt x2)] _ _ _ _
  refine ev_r_istore_n (pc := 5) (k := 1) (by decide +kernel) (by decide +kernel) rfl ?_
  refine ev_r_aload_n (pc := 6) (k := 0) (v := .ref 3) trivial (by decide +kernel) (by exact (ev_lk_st1 (by rfl) (by decide) rfl)) ?_
  refine ev_r_iconst (pc := 7) (k := 0) (by decide +kernel) ?_
  refine ev_r_virt (pc := 8) (y := 108) (mi := 84) (na := 1) (k := 3) (as := [.int (Int32.ofInt 0)]) (rest := []) (encc := ev_oI) (Q := ev_rng) (fun x S1 h => jt_84 d (by omega) Q 0 (by decide) s1 x S1 h) (by exact ev_ob_3) (by decide +kernel) (by decide +kernel) (by decide +kernel) (by decide +kernel) rfl (by (try simp only [ev_sum, ev_nv_cat]); first | done | rfl) ?_
  intro x4 s3 hx4
  show ev_w _ _ _ _ _ [.int (Int32.ofInt x4)] _ _ _ _
  refine ev_r_bipush (pc := 11) (k := 60) (by decide +kernel) (by decide +kernel) ?_
  refine ev_r_icmp (pc := 13) (q := .ne) (o := 20) (t := 33) (c := x4 ≠ 60) (by decide +kernel) (ev_k_ne hx4 (by decide)) (by decide +kernel) ?_ ?_
  · intro c5
    refine ev_r_iconst (pc := 33) (k := 0) (by decide +kernel) ?_
    exact ev_r_ireturn (pc := 34) (x := 0) (v := Int32.ofInt 0) (ty := .boolean) (by decide : ev_bl 0) (by decide +kernel) (by decide +kernel) (ev_ret_bl (by decide : ev_bl 0)) rfl
  · intro c5
    refine ev_r_iload_n (pc := 16) (k := 1) (v := Int32.ofInt x2) (by decide +kernel) (by exact ev_lk_st1_self) ?_
    refine ev_r_stat (pc := 17) (y := 43) (kind := 5) (mi := 209) (na := 1) (as := [.int (Int32.ofInt x2)]) (rest := []) (encc := ev_oI) (Q := ev_bl) (fun x S1 h => jt_209 d (by omega) Q x2 hx2 s3 x S1 h) (Or.inr (Or.inl rfl)) (by decide +kernel) (by decide +kernel) (by decide +kernel) (by decide +kernel) rfl (by (try simp only [ev_sum, ev_nv_cat]); first | done | rfl) ?_
    intro x7 s6 hx7
    replace hx7 := ev_bl_rng hx7
    show ev_w _ _ _ _ _ [.int (Int32.ofInt x7)] _ _ _ _
    refine ev_r_if (pc := 20) (q := .eq) (o := 13) (t := 33) (c := x7 = 0) (by decide +kernel) (ev_k_eq hx7 ev_rng0) (by decide +kernel) ?_ ?_
    · intro c8
      refine ev_r_iconst (pc := 33) (k := 0) (by decide +kernel) ?_
      exact ev_r_ireturn (pc := 34) (x := 0) (v := Int32.ofInt 0) (ty := .boolean) (by decide : ev_bl 0) (by decide +kernel) (by decide +kernel) (ev_ret_bl (by decide : ev_bl 0)) rfl
    · intro c8
      refine ev_r_aload_n (pc := 23) (k := 0) (v := .ref 3) trivial (by decide +kernel) (by exact (ev_lk_st1 (by rfl) (by decide) rfl)) ?_
      refine ev_r_iconst (pc := 24) (k := 2) (by decide +kernel) ?_
      refine ev_r_virt (pc := 25) (y := 108) (mi := 84) (na := 1) (k := 3) (as := [.int (Int32.ofInt 2)]) (rest := []) (encc := ev_oI) (Q := ev_rng) (fun x S1 h => jt_84 d (by omega) Q 2 (by decide) s6 x S1 h) (by exact ev_ob_3) (by decide +kernel) (by decide +kernel) (by decide +kernel) (by decide +kernel) rfl (by (try simp only [ev_sum, ev_nv_cat]); first | done | rfl) ?_
      intro x10 s9 hx10
      show ev_w _ _ _ _ _ [.int (Int32.ofInt x10)] _ _ _ _
      refine ev_r_bipush (pc := 28) (k := 62) (by decide +kernel) (by decide +kernel) ?_
      refine ev_r_icmp (pc := 30) (q := .eq) (o := 5) (t := 35) (c := x10 = 62) (by decide +kernel) (ev_k_eq hx10 (by decide)) (by decide +kernel) ?_ ?_
      · intro c11
        refine ev_r_aload_n (pc := 35) (k := 0) (v := .ref 3) trivial (by decide +kernel) (by exact (ev_lk_st1 (by rfl) (by decide) rfl)) ?_
        refine ev_r_dup (pc := 36) rfl (by decide +kernel) ?_
        refine ev_r_getI (pc := 37) (y := 63) (ci := 7) (f := 8) (fin := 0) (by decide +kernel) (by decide +kernel) (by exact ev_ob_3) rfl ?_
        intro x12 hx12
        refine ev_r_iconst (pc := 40) (k := 3) (by decide +kernel) ?_
        refine ev_r_iadd (pc := 41) (by decide +kernel) ?_
        intro x13 hx13
        refine ev_r_putI (pc := 42) (y := 63) (ci := 7) (f := 8) hx13 (by decide +kernel) (by decide +kernel) (by exact ev_ob_3) rfl rfl ?_
        intro s14
        refine ev_r_aload_n (pc := 45) (k := 0) (v := .ref 3) trivial (by decide +kernel) (by exact (ev_lk_st1 (by rfl) (by decide) rfl)) ?_
        refine ev_r_bipush (pc := 46) (k := 7) (by decide +kernel) (by decide +kernel) ?_
        refine ev_r_iload_n (pc := 48) (k := 1) (v := Int32.ofInt x2) (by decide +kernel) (by exact ev_lk_st1_self) ?_
        refine ev_r_bipush (pc := 49) (k := 97) (by decide +kernel) (by decide +kernel) ?_
        refine ev_r_isub (pc := 51) (by decide +kernel) ?_
        intro x15 hx15
        refine ev_r_ineg (pc := 52) (by decide +kernel) ?_
        intro x16 hx16
        refine ev_r_iconst (pc := 53) (k := 1) (by decide +kernel) ?_
        refine ev_r_isub (pc := 54) (by decide +kernel) ?_
        intro x17 hx17
        refine ev_r_aload_n (pc := 55) (k := 0) (v := .ref 3) trivial (by decide +kernel) (by exact (ev_lk_st1 (by rfl) (by decide) rfl)) ?_
        refine ev_r_iconst (pc := 56) (k := 1) (by decide +kernel) ?_
        refine ev_r_virt (pc := 57) (y := 128) (mi := 86) (na := 1) (k := 3) (as := [.int (Int32.ofInt 1)]) (rest := [.int (Int32.ofInt x17), .int (Int32.ofInt 7), .ref 3]) (encc := ev_oI) (Q := ev_bl) (fun x S1 h => jt_86 d (by omega) Q 1 (by decide) s14 x S1 h) (by exact ev_ob_3) (by decide +kernel) (by decide +kernel) (by decide +kernel) (by decide +kernel) rfl (by (try simp only [ev_sum, ev_nv_cat]); first | done | rfl) ?_
        intro x19 s18 hx19
        replace hx19 := ev_bl_rng hx19
        show ev_w _ _ _ _ _ [.int (Int32.ofInt x19), .int (Int32.ofInt x17), .int (Int32.ofInt 7), .ref 3] _ _ _ _
        refine ev_r_jn (Q := fun K => ∀ (x22 : Int) (hx22 : ev_rng x22), ∀ (x21 : Int) (hx21 : ev_rng x21), ∀ (x20 : Int) (hx20 : ev_rng x20), ∀ (s24 : ev_St) (w23 : List (Nat × Value)), ev_w none (ev_Mof 97) d 68 w23 [.int (Int32.ofInt x22), .int (Int32.ofInt x21), .int (Int32.ofInt x20), .ref 3] s24 (K x22 x21 x20 s24) ev_eI ev_bl) ?_ ?_
        · intro x22 hx22 x21 hx21 x20 hx20 s24 w23 
          refine ev_r_virt (pc := 68) (y := 155) (mi := 88) (na := 3) (k := 3) (as := [.int (Int32.ofInt x20), .int (Int32.ofInt x21), .int (Int32.ofInt x22)]) (rest := []) (encc := ev_oI) (Q := ev_bl) (fun x S1 h => jt_88 d (by omega) Q x20 x21 x22 hx20 hx21 hx22 s24 x S1 h) (by exact ev_ob_3) (by decide +kernel) (by decide +kernel) (by decide +kernel) (by decide +kernel) rfl (by (try simp only [ev_sum, ev_nv_cat]); first | done | rfl) ?_
          intro x26 s25 hx26
          replace hx26 := ev_bl_rng hx26
          show ev_w _ _ _ _ _ [.int (Int32.ofInt x26)] _ _ _ _
          refine ev_r_chk ?_
          intro c27
          exact ev_r_ireturn (pc := 71) (x := x26) (v := Int32.ofInt x26) (ty := .boolean) c27 (by decide +kernel) (by decide +kernel) (ev_ret_bl c27) rfl
        · intro K68 hK68
          refine ev_r_if (pc := 60) (q := .eq) (o := 7) (t := 67) (c := x19 = 0) (by decide +kernel) (ev_k_eq hx19 ev_rng0) (by decide +kernel) ?_ ?_
          · intro c28
            refine ev_r_iconst (pc := 67) (k := 0) (by decide +kernel) ?_
            exact hK68 0 (by decide) x17 hx17 7 (by decide) s18 _ 
          · intro c28
            refine ev_r_iconst (pc := 63) (k := 1) (by decide +kernel) ?_
            refine ev_r_goto (pc := 64) (o := 4) (t := 68) (by decide +kernel) (by decide +kernel) ?_
            exact hK68 1 (by decide) x17 hx17 7 (by decide) s18 _ 
      · intro c11
        refine ev_r_iconst (pc := 33) (k := 0) (by decide +kernel) ?_
        exact ev_r_ireturn (pc := 34) (x := 0) (v := Int32.ofInt 0) (ty := .boolean) (by decide : ev_bl 0) (by decide +kernel) (by decide +kernel) (ev_ret_bl (by decide : ev_bl 0)) rfl
/-- MendBench$Reader.readSlash()Z -/
def jm_96 (Q : Nat)  (S : ev_St) : Option ((Int) × ev_St) := ev_bd (jm_84 Q 0 S) fun x2 s1 => ev_b (s1.1 3 8) fun x3 => ev_ck (x3 + 1) fun x4 => ev_b (ev_pI s1 3 8 x4) fun s5 => ev_bd (jm_216 Q x2 s5) fun x7 s6 => if x7 = 0 then (ev_jn (fun  (s12 : ev_St) => if x2 = 65 then (ev_bd (jm_88 Q 1 0 0 s12) fun x15 s14 => ev_if (ev_bl x15) (some (x15, s14))) else (if x2 = 66 then (ev_bd (jm_88 Q 6 0 0 s12) fun x19 s18 => ev_if (ev_bl x19) (some (x19, s18))) else (if x2 = 98 then (ev_bd (jm_88 Q 5 0 0 s12) fun x23 s22 => ev_if (ev_bl x23) (some (x23, s22))) else (if x2 = 107 then (ev_bd (jm_97 Q  s12) fun x27 s26 => ev_if (ev_bl x27) (some (x27, s26))) else (if x2 = 110 then (ev_bd (jm_89 Q 10 s12) fun x31 s30 => ev_if (ev_bl x31) (some (x31, s30))) else (if x2 = 122 then (ev_bd (jm_88 Q 3 0 0 s12) fun x35 s34 => ev_if (ev_bl x35) (some (x35, s34))) else (ev_bd (jm_211 Q x2 s12) fun x38 s37 => if x38 = 0 then (some (0, s37)) else (ev_bd (jm_89 Q x2 s37) fun x41 s40 => if x41 = 0 then (some (0, s40)) else (some (1, s40)))))))))) fun K72 => if x2 < 49 then (K72  s6) else (if 57 < x2 then (K72  s6) else (ev_ck (x2 - 48) fun x45 => ev_bd (jm_86 Q 1 s6) fun x47 s46 => ev_jn (fun (x50 : Int) (x49 : Int) (x48 : Int) (s52 : ev_St) => ev_bd (jm_88 Q x48 x49 x50 s52) fun x54 s53 => ev_if (ev_bl x54) (some (x54, s53))) fun K68 => if x47 = 0 then (K68 0 x45 7 s46) else (K68 1 x45 7 s46)))) else (ev_bd (jm_217 Q x2 s6) fun y58 s57 => ev_bd (jm_218 Q x2 s57) fun y60 s59 => ev_bd (jm_90 Q y58 y60 s59) fun x62 s61 => ev_if (ev_bl x62) (some (x62, s61)))
theorem jt_96 (d : Nat) (hd : 5 ≤ d) (Q : Nat)   (S : ev_St) (x : Int) (S' : ev_St) (hJ : jm_96 Q  S = some (x, S')) : ev_Ref d 96 [.ref 3] S (ev_eI x) S' (ev_bl x) := by
  obtain ⟨d, rfl⟩ : ∃ e, d = e + 1 := ⟨d - 1, by omega⟩
  refine ev_ref_of (P := ev_bl) (lv := [(0, .ref 3)]) (by decide +kernel) (by (try simp only [ev_sum, ev_nv_cat]); first | done | rfl) (by (try simp only [lv_args, ev_nv_cat]); first | done | rfl) ?_ x S' hJ
  unfold jm_96
  refine ev_r_aload_n (pc := 0) (k := 0) (v := .ref 3) trivial (by decide +kernel) (by rfl) ?_
  refine ev_r_iconst (pc := 1) (k := 0) (by decide +kernel) ?_
  refine ev_r_virt (pc := 2) (y := 108) (mi := 84) (na := 1) (k := 3) (as := [.int (Int32.ofInt 0)]) (rest := []) (encc := ev_oI) (Q := ev_rng) (fun x S1 h => jt_84 d (by omega) Q 0 (by decide) S x S1 h) (by exact ev_ob_3) (by decide +kernel) (by decide +kernel) (by decide +kernel) (by decide +kernel) rfl (by (try simp only [ev_sum, ev_nv_cat]); first | done | rfl) ?_
  intro x2 s1 hx2
  show ev_w _ _ _ _ _ [.int (Int32.ofInt x2)] _ _ _ _
  refine ev_r_istore_n (pc := 5) (k := 1) (by decide +kernel) (by decide +kernel) rfl ?_
  refine ev_r_aload_n (pc := 6) (k := 0) (v := .ref 3) trivial (by decide +kernel) (by exact (ev_lk_st1 (by rfl) (by decide) rfl)) ?_
  refine ev_r_dup (pc := 7) rfl (by decide +kernel) ?_
  refine ev_r_getI (pc := 8) (y := 63) (ci := 7) (f := 8) (fin := 0) (by decide +kernel) (by decide +kernel) (by exact ev_ob_3) rfl ?_
  intro x3 hx3
  refine ev_r_iconst (pc := 11) (k := 1) (by decide +kernel) ?_
  refine ev_r_iadd (pc := 12) (by decide +kernel) ?_
  intro x4 hx4
  refine ev_r_putI (pc := 13) (y := 63) (ci := 7) (f := 8) hx4 (by decide +kernel) (by decide +kernel) (by exact ev_ob_3) rfl rfl ?_
  intro s5
  refine ev_r_iload_n (pc := 16) (k := 1) (v := Int32.ofInt x2) (by decide +kernel) (by exact ev_lk_st1_self) ?_
  refine ev_r_stat (pc := 17) (y := 214) (kind := 5) (mi := 216) (na := 1) (as := [.int (Int32.ofInt x2)]) (rest := []) (encc := ev_oI) (Q := ev_bl) (fun x S1 h => jt_216 d (by omega) Q x2 hx2 s5 x S1 h) (Or.inr (Or.inl rfl)) (by decide +kernel) (by decide +kernel) (by decide +kernel) (by decide +kernel) rfl (by (try simp only [ev_sum, ev_nv_cat]); first | done | rfl) ?_
  intro x7 s6 hx7
  replace hx7 := ev_bl_rng hx7
  show ev_w _ _ _ _ _ [.int (Int32.ofInt x7)] _ _ _ _
  refine ev_r_if (pc := 20) (q := .eq) (o := 16) (t := 36) (c := x7 = 0) (by decide +kernel) (ev_k_eq hx7 ev_rng0) (by decide +kernel) ?_ ?_
  · intro c8
    refine ev_r_iload_n (pc := 36) (k := 1) (v := Int32.ofInt x2) (by decide +kernel) (by exact ev_lk_st1_self) ?_
    refine ev_r_bipush (pc := 37) (k := 49) (by decide +kernel) (by decide +kernel) ?_
    refine ev_r_jn (Q := fun K => ∀ (s12 : ev_St) (w9 : List (Nat × Value)), ev_lk w9 0 = some (.ref 3) → ev_lk w9 1 = some (.int (Int32.ofInt x2)) → ev_w none (ev_Mof 96) d 72 w9 [] s12 (K  s12) ev_eI ev_bl) ?_ ?_
    · intro  s12 w9 e10 e11
      refine ev_r_iload_n (pc := 72) (k := 1) (v := Int32.ofInt x2) (by decide +kernel) (by exact e11) ?_
      refine ev_r_ite ?_ ?_
      · intro c13
        refine ev_r_sw (pc := 73) (i := (.lookupswitch 104 #[(65, 83), (66, 74), (98, 66), (107, 99), (110, 59), (122, 91)])) (len := 59) (pc' := 156) (by decide +kernel) (by rw [c13]; rw [ev_pure_lsw]; exact ev_lsw_c (o := 83) (by decide) (by decide +kernel) (by decide +kernel) (by decide +kernel)) ?_
        refine ev_r_aload_n (pc := 156) (k := 0) (v := .ref 3) trivial (by decide +kernel) (by exact e10) ?_
        refine ev_r_iconst (pc := 157) (k := 1) (by decide +kernel) ?_
        refine ev_r_iconst (pc := 158) (k := 0) (by decide +kernel) ?_
        refine ev_r_iconst (pc := 159) (k := 0) (by decide +kernel) ?_
        refine ev_r_virt (pc := 160) (y := 155) (mi := 88) (na := 3) (k := 3) (as := [.int (Int32.ofInt 1), .int (Int32.ofInt 0), .int (Int32.ofInt 0)]) (rest := []) (encc := ev_oI) (Q := ev_bl) (fun x S1 h => jt_88 d (by omega) Q 1 0 0 (by decide) (by decide) (by decide) s12 x S1 h) (by exact ev_ob_3) (by decide +kernel) (by decide +kernel) (by decide +kernel) (by decide +kernel) rfl (by (try simp only [ev_sum, ev_nv_cat]); first | done | rfl) ?_
        intro x15 s14 hx15
        replace hx15 := ev_bl_rng hx15
        show ev_w _ _ _ _ _ [.int (Int32.ofInt x15)] _ _ _ _
        refine ev_r_chk ?_
        intro c16
        exact ev_r_ireturn (pc := 163) (x := x15) (v := Int32.ofInt x15) (ty := .boolean) c16 (by decide +kernel) (by decide +kernel) (ev_ret_bl c16) rfl
      · intro c13
        refine ev_r_ite ?_ ?_
        · intro c17
          refine ev_r_sw (pc := 73) (i := (.lookupswitch 104 #[(65, 83), (66, 74), (98, 66), (107, 99), (110, 59), (122, 91)])) (len := 59) (pc' := 147) (by decide +kernel) (by rw [c17]; rw [ev_pure_lsw]; exact ev_lsw_c (o := 74) (by decide) (by decide +kernel) (by decide +kernel) (by decide +kernel)) ?_
          refine ev_r_aload_n (pc := 147) (k := 0) (v := .ref 3) trivial (by decide +kernel) (by exact e10) ?_
          refine ev_r_bipush (pc := 148) (k := 6) (by decide +kernel) (by decide +kernel) ?_
          refine ev_r_iconst (pc := 150) (k := 0) (by decide +kernel) ?_
          refine ev_r_iconst (pc := 151) (k := 0) (by decide +kernel) ?_
          refine ev_r_virt (pc := 152) (y := 155) (mi := 88) (na := 3) (k := 3) (as := [.int (Int32.ofInt 6), .int (Int32.ofInt 0), .int (Int32.ofInt 0)]) (rest := []) (encc := ev_oI) (Q := ev_bl) (fun x S1 h => jt_88 d (by omega) Q 6 0 0 (by decide) (by decide) (by decide) s12 x S1 h) (by exact ev_ob_3) (by decide +kernel) (by decide +kernel) (by decide +kernel) (by decide +kernel) rfl (by (try simp only [ev_sum, ev_nv_cat]); first | done | rfl) ?_
          intro x19 s18 hx19
          replace hx19 := ev_bl_rng hx19
          show ev_w _ _ _ _ _ [.int (Int32.ofInt x19)] _ _ _ _
          refine ev_r_chk ?_
          intro c20
          exact ev_r_ireturn (pc := 155) (x := x19) (v := Int32.ofInt x19) (ty := .boolean) c20 (by decide +kernel) (by decide +kernel) (ev_ret_bl c20) rfl
        · intro c17
          refine ev_r_ite ?_ ?_
          · intro c21
            refine ev_r_sw (pc := 73) (i := (.lookupswitch 104 #[(65, 83), (66, 74), (98, 66), (107, 99), (110, 59), (122, 91)])) (len := 59) (pc' := 139) (by decide +kernel) (by rw [c21]; rw [ev_pure_lsw]; exact ev_lsw_c (o := 66) (by decide) (by decide +kernel) (by decide +kernel) (by decide +kernel)) ?_
            refine ev_r_aload_n (pc := 139) (k := 0) (v := .ref 3) trivial (by decide +kernel) (by exact e10) ?_
            refine ev_r_iconst (pc := 140) (k := 5) (by decide +kernel) ?_
            refine ev_r_iconst (pc := 141) (k := 0) (by decide +kernel) ?_
            refine ev_r_iconst (pc := 142) (k := 0) (by decide +kernel) ?_
            refine ev_r_virt (pc := 143) (y := 155) (mi := 88) (na := 3) (k := 3) (as := [.int (Int32.ofInt 5), .int (Int32.ofInt 0), .int (Int32.ofInt 0)]) (rest := []) (encc := ev_oI) (Q := ev_bl) (fun x S1 h => jt_88 d (by omega) Q 5 0 0 (by decide) (by decide) (by decide) s12 x S1 h) (by exact ev_ob_3) (by decide +kernel) (by decide +kernel) (by decide +kernel) (by decide +kernel) rfl (by (try simp only [ev_sum, ev_nv_cat]); first | done | rfl) ?_
            intro x23 s22 hx23
            replace hx23 := ev_bl_rng hx23
            show ev_w _ _ _ _ _ [.int (Int32.ofInt x23)] _ _ _ _
            refine ev_r_chk ?_
            intro c24
            exact ev_r_ireturn (pc := 146) (x := x23) (v := Int32.ofInt x23) (ty := .boolean) c24 (by decide +kernel) (by decide +kernel) (ev_ret_bl c24) rfl
          · intro c21
            refine ev_r_ite ?_ ?_
            · intro c25
              refine ev_r_sw (pc := 73) (i := (.lookupswitch 104 #[(65, 83), (66, 74), (98, 66), (107, 99), (110, 59), (122, 91)])) (len := 59) (pc' := 172) (by decide +kernel) (by rw [c25]; rw [ev_pure_lsw]; exact ev_lsw_c (o := 99) (by decide) (by decide +kernel) (by decide +kernel) (by decide +kernel)) ?_
              refine ev_r_aload_n (pc := 172) (k := 0) (v := .ref 3) trivial (by decide +kernel) (by exact e10) ?_
              refine ev_r_virt (pc := 173) (y := 224) (mi := 97) (na := 0) (k := 3) (as := []) (rest := []) (encc := ev_oI) (Q := ev_bl) (fun x S1 h => jt_97 d (by omega) Q   s12 x S1 h) (by exact ev_ob_3) (by decide +kernel) (by decide +kernel) (by decide +kernel) (by decide +kernel) rfl (by (try simp only [ev_sum, ev_nv_cat]); first | done | rfl) ?_
              intro x27 s26 hx27
              replace hx27 := ev_bl_rng hx27
              show ev_w _ _ _ _ _ [.int (Int32.ofInt x27)] _ _ _ _
              refine ev_r_chk ?_
              intro c28
              exact ev_r_ireturn (pc := 176) (x := x27) (v := Int32.ofInt x27) (ty := .boolean) c28 (by decide +kernel) (by decide +kernel) (ev_ret_bl c28) rfl
            · intro c25
              refine ev_r_ite ?_ ?_
              · intro c29
                refine ev_r_sw (pc := 73) (i := (.lookupswitch 104 #[(65, 83), (66, 74), (98, 66), (107, 99), (110, 59), (122, 91)])) (len := 59) (pc' := 132) (by decide +kernel) (by rw [c29]; rw [ev_pure_lsw]; exact ev_lsw_c (o := 59) (by decide) (by decide +kernel) (by decide +kernel) (by decide +kernel)) ?_
                refine ev_r_aload_n (pc := 132) (k := 0) (v := .ref 3) trivial (by decide +kernel) (by exact e10) ?_
                refine ev_r_bipush (pc := 133) (k := 10) (by decide +kernel) (by decide +kernel) ?_
                refine ev_r_virt (pc := 135) (y := 159) (mi := 89) (na := 1) (k := 3) (as := [.int (Int32.ofInt 10)]) (rest := []) (encc := ev_oI) (Q := ev_bl) (fun x S1 h => jt_89 d (by omega) Q 10 (by decide) s12 x S1 h) (by exact ev_ob_3) (by decide +kernel) (by decide +kernel) (by decide +kernel) (by decide +kernel) rfl (by (try simp only [ev_sum, ev_nv_cat]); first | done | rfl) ?_
                intro x31 s30 hx31
                replace hx31 := ev_bl_rng hx31
                show ev_w _ _ _ _ _ [.int (Int32.ofInt x31)] _ _ _ _
                refine ev_r_chk ?_
                intro c32
                exact ev_r_ireturn (pc := 138) (x := x31) (v := Int32.ofInt x31) (ty := .boolean) c32 (by decide +kernel) (by decide +kernel) (ev_ret_bl c32) rfl
              · intro c29
                refine ev_r_ite ?_ ?_
                · intro c33
                  refine ev_r_sw (pc := 73) (i := (.lookupswitch 104 #[(65, 83), (66, 74), (98, 66), (107, 99), (110, 59), (122, 91)])) (len := 59) (pc' := 164) (by decide +kernel) (by rw [c33]; rw [ev_pure_lsw]; exact ev_lsw_c (o := 91) (by decide) (by decide +kernel) (by decide +kernel) (by decide +kernel)) ?_
                  refine ev_r_aload_n (pc := 164) (k := 0) (v := .ref 3) trivial (by decide +kernel) (by exact e10) ?_
                  refine ev_r_iconst (pc := 165) (k := 3) (by decide +kernel) ?_
                  refine ev_r_iconst (pc := 166) (k := 0) (by decide +kernel) ?_
                  refine ev_r_iconst (pc := 167) (k := 0) (by decide +kernel) ?_
                  refine ev_r_virt (pc := 168) (y := 155) (mi := 88) (na := 3) (k := 3) (as := [.int (Int32.ofInt 3), .int (Int32.ofInt 0), .int (Int32.ofInt 0)]) (rest := []) (encc := ev_oI) (Q := ev_bl) (fun x S1 h => jt_88 d (by omega) Q 3 0 0 (by decide) (by decide) (by decide) s12 x S1 h) (by exact ev_ob_3) (by decide +kernel) (by decide +kernel) (by decide +kernel) (by decide +kernel) rfl (by (try simp only [ev_sum, ev_nv_cat]); first | done | rfl) ?_
                  intro x35 s34 hx35
                  replace hx35 := ev_bl_rng hx35
                  show ev_w _ _ _ _ _ [.int (Int32.ofInt x35)] _ _ _ _
                  refine ev_r_chk ?_
                  intro c36
                  exact ev_r_ireturn (pc := 171) (x := x35) (v := Int32.ofInt x35) (ty := .boolean) c36 (by decide +kernel) (by decide +kernel) (ev_ret_bl c36) rfl
                · intro c33
                  refine ev_r_sw (pc := 73) (i := (.lookupswitch 104 #[(65, 83), (66, 74), (98, 66), (107, 99), (110, 59), (122, 91)])) (len := 59) (pc' := 177) (by decide +kernel) (by rw [ev_pure_lsw]; exact ev_lsw_c (o := 104) hx2 (by decide +kernel) (by show Op.lookupswitch.offset [(65, 83), (66, 74), (98, 66), (107, 99), (110, 59), (122, 91)] 104 x2 = 104; rw [Op.lookupswitch.offset_cons, if_neg (by omega), Op.lookupswitch.offset_cons, if_neg (by omega), Op.lookupswitch.offset_cons, if_neg (by omega), Op.lookupswitch.offset_cons, if_neg (by omega), Op.lookupswitch.offset_cons, if_neg (by omega), Op.lookupswitch.offset_cons, if_neg (by omega), Op.lookupswitch.offset_nil]) (by decide +kernel)) ?_
                  refine ev_r_iload_n (pc := 177) (k := 1) (v := Int32.ofInt x2) (by decide +kernel) (by exact e11) ?_
                  refine ev_r_stat (pc := 178) (y := 227) (kind := 5) (mi := 211) (na := 1) (as := [.int (Int32.ofInt x2)]) (rest := []) (encc := ev_oI) (Q := ev_bl) (fun x S1 h => jt_211 d (by omega) Q x2 hx2 s12 x S1 h) (Or.inr (Or.inl rfl)) (by decide +kernel) (by decide +kernel) (by decide +kernel) (by decide +kernel) rfl (by (try simp only [ev_sum, ev_nv_cat]); first | done | rfl) ?_
                  intro x38 s37 hx38
                  replace hx38 := ev_bl_rng hx38
                  show ev_w _ _ _ _ _ [.int (Int32.ofInt x38)] _ _ _ _
                  refine ev_r_if (pc := 181) (q := .eq) (o := 15) (t := 196) (c := x38 = 0) (by decide +kernel) (ev_k_eq hx38 ev_rng0) (by decide +kernel) ?_ ?_
                  · intro c39
                    refine ev_r_iconst (pc := 196) (k := 0) (by decide +kernel) ?_
                    exact ev_r_ireturn (pc := 197) (x := 0) (v := Int32.ofInt 0) (ty := .boolean) (by decide : ev_bl 0) (by decide +kernel) (by decide +kernel) (ev_ret_bl (by decide : ev_bl 0)) rfl
                  · intro c39
                    refine ev_r_aload_n (pc := 184) (k := 0) (v := .ref 3) trivial (by decide +kernel) (by exact e10) ?_
                    refine ev_r_iload_n (pc := 185) (k := 1) (v := Int32.ofInt x2) (by decide +kernel) (by exact e11) ?_
                    refine ev_r_virt (pc := 186) (y := 159) (mi := 89) (na := 1) (k := 3) (as := [.int (Int32.ofInt x2)]) (rest := []) (encc := ev_oI) (Q := ev_bl) (fun x S1 h => jt_89 d (by omega) Q x2 hx2 s37 x S1 h) (by exact ev_ob_3) (by decide +kernel) (by decide +kernel) (by decide +kernel) (by decide +kernel) rfl (by (try simp only [ev_sum, ev_nv_cat]); first | done | rfl) ?_
                    intro x41 s40 hx41
                    replace hx41 := ev_bl_rng hx41
                    show ev_w _ _ _ _ _ [.int (Int32.ofInt x41)] _ _ _ _
                    refine ev_r_if (pc := 189) (q := .eq) (o := 7) (t := 196) (c := x41 = 0) (by decide +kernel) (ev_k_eq hx41 ev_rng0) (by decide +kernel) ?_ ?_
                    · intro c42
                      refine ev_r_iconst (pc := 196) (k := 0) (by decide +kernel) ?_
                      exact ev_r_ireturn (pc := 197) (x := 0) (v := Int32.ofInt 0) (ty := .boolean) (by decide : ev_bl 0) (by decide +kernel) (by decide +kernel) (ev_ret_bl (by decide : ev_bl 0)) rfl
                    · intro c42
                      refine ev_r_iconst (pc := 192) (k := 1) (by decide +kernel) ?_
                      refine ev_r_goto (pc := 193) (o := 4) (t := 197) (by decide +kernel) (by decide +kernel) ?_
                      exact ev_r_ireturn (pc := 197) (x := 1) (v := Int32.ofInt 1) (ty := .boolean) (by decide : ev_bl 1) (by decide +kernel) (by decide +kernel) (ev_ret_bl (by decide : ev_bl 1)) rfl
    · intro K72 hK72
      refine ev_r_icmp (pc := 39) (q := .lt) (o := 33) (t := 72) (c := x2 < 49) (by decide +kernel) (ev_k_lt hx2 (by decide)) (by decide +kernel) ?_ ?_
      · intro c43
        exact hK72  s6 _ (by exact (ev_lk_st1 (by rfl) (by decide) rfl)) (by exact ev_lk_st1_self)
      · intro c43
        refine ev_r_iload_n (pc := 42) (k := 1) (v := Int32.ofInt x2) (by decide +kernel) (by exact ev_lk_st1_self) ?_
        refine ev_r_bipush (pc := 43) (k := 57) (by decide +kernel) (by decide +kernel) ?_
        refine ev_r_icmp (pc := 45) (q := .gt) (o := 27) (t := 72) (c := 57 < x2) (by decide +kernel) (ev_k_gt hx2 (by decide)) (by decide +kernel) ?_ ?_
        · intro c44
          exact hK72  s6 _ (by exact (ev_lk_st1 (by rfl) (by decide) rfl)) (by exact ev_lk_st1_self)
        · intro c44
          refine ev_r_aload_n (pc := 48) (k := 0) (v := .ref 3) trivial (by decide +kernel) (by exact (ev_lk_st1 (by rfl) (by decide) rfl)) ?_
          refine ev_r_bipush (pc := 49) (k := 7) (by decide +kernel) (by decide +kernel) ?_
          refine ev_r_iload_n (pc := 51) (k := 1) (v := Int32.ofInt x2) (by decide +kernel) (by exact ev_lk_st1_self) ?_
          refine ev_r_bipush (pc := 52) (k := 48) (by decide +kernel) (by decide +kernel) ?_
          refine ev_r_isub (pc := 54) (by decide +kernel) ?_
          intro x45 hx45
          refine ev_r_aload_n (pc := 55) (k := 0) (v := .ref 3) trivial (by decide +kernel) (by exact (ev_lk_st1 (by rfl) (by decide) rfl)) ?_
          refine ev_r_iconst (pc := 56) (k := 1) (by decide +kernel) ?_
          refine ev_r_virt (pc := 57) (y := 128) (mi := 86) (na := 1) (k := 3) (as := [.int (Int32.ofInt 1)]) (rest := [.int (Int32.ofInt x45), .int (Int32.ofInt 7), .ref 3]) (encc := ev_oI) (Q := ev_bl) (fun x S1 h => jt_86 d (by omega) Q 1 (by decide) s6 x S1 h) (by exact ev_ob_3) (by decide +kernel) (by decide +kernel) (by decide +kernel) (by decide +kernel) rfl (by (try simp only [ev_sum, ev_nv_cat]); first | done | rfl) ?_
          intro x47 s46 hx47
          replace hx47 := ev_bl_rng hx47
          show ev_w _ _ _ _ _ [.int (Int32.ofInt x47), .int (Int32.ofInt x45), .int (Int32.ofInt 7), .ref 3] _ _ _ _
          refine ev_r_jn (Q := fun K => ∀ (x50 : Int) (hx50 : ev_rng x50), ∀ (x49 : Int) (hx49 : ev_rng x49), ∀ (x48 : Int) (hx48 : ev_rng x48), ∀ (s52 : ev_St) (w51 : List (Nat × Value)), ev_w none (ev_Mof 96) d 68 w51 [.int (Int32.ofInt x50), .int (Int32.ofInt x49), .int (Int32.ofInt x48), .ref 3] s52 (K x50 x49 x48 s52) ev_eI ev_bl) ?_ ?_
          · intro x50 hx50 x49 hx49 x48 hx48 s52 w51 
            refine ev_r_virt (pc := 68) (y := 155) (mi := 88) (na := 3) (k := 3) (as := [.int (Int32.ofInt x48), .int (Int32.ofInt x49), .int (Int32.ofInt x50)]) (rest := []) (encc := ev_oI) (Q := ev_bl) (fun x S1 h => jt_88 d (by omega) Q x48 x49 x50 hx48 hx49 hx50 s52 x S1 h) (by exact ev_ob_3) (by decide +kernel) (by decide +kernel) (by decide +kernel) (by decide +kernel) rfl (by (try simp only [ev_sum, ev_nv_cat]); first | done | rfl) ?_
            intro x54 s53 hx54
            replace hx54 := ev_bl_rng hx54
            show ev_w _ _ _ _ _ [.int (Int32.ofInt x54)] _ _ _ _
            refine ev_r_chk ?_
            intro c55
            exact ev_r_ireturn (pc := 71) (x := x54) (v := Int32.ofInt x54) (ty := .boolean) c55 (by decide +kernel) (by decide +kernel) (ev_ret_bl c55) rfl
          · intro K68 hK68
            refine ev_r_if (pc := 60) (q := .eq) (o := 7) (t := 67) (c := x47 = 0) (by decide +kernel) (ev_k_eq hx47 ev_rng0) (by decide +kernel) ?_ ?_
            · intro c56
              refine ev_r_iconst (pc := 67) (k := 0) (by decide +kernel) ?_
              exact hK68 0 (by decide) x45 hx45 7 (by decide) s46 _ 
            · intro c56
              refine ev_r_iconst (pc := 63) (k := 1) (by decide +kernel) ?_
              refine ev_r_goto (pc := 64) (o := 4) (t := 68) (by decide +kernel) (by decide +kernel) ?_
              exact hK68 1 (by decide) x45 hx45 7 (by decide) s46 _ 
  · intro c8
    refine ev_r_aload_n (pc := 23) (k := 0) (v := .ref 3) trivial (by decide +kernel) (by exact (ev_lk_st1 (by rfl) (by decide) rfl)) ?_
    refine ev_r_iload_n (pc := 24) (k := 1) (v := Int32.ofInt x2) (by decide +kernel) (by exact ev_lk_st1_self) ?_
    refine ev_r_stat (pc := 25) (y := 217) (kind := 5) (mi := 217) (na := 1) (as := [.int (Int32.ofInt x2)]) (rest := [.ref 3]) (encc := ev_oL) (Q := ev_PU) (fun x S1 h => jt_217 d (by omega) Q x2 hx2 s6 x S1 h) (Or.inr (Or.inl rfl)) (by decide +kernel) (by decide +kernel) (by decide +kernel) (by decide +kernel) rfl (by (try simp only [ev_sum, ev_nv_cat]); first | done | rfl) ?_
    intro y58 s57 _
    show ev_w _ _ _ _ _ [.long y58, .ref 3] _ _ _ _
    refine ev_r_iload_n (pc := 28) (k := 1) (v := Int32.ofInt x2) (by decide +kernel) (by exact ev_lk_st1_self) ?_
    refine ev_r_stat (pc := 29) (y := 221) (kind := 5) (mi := 218) (na := 1) (as := [.int (Int32.ofInt x2)]) (rest := [.long y58, .ref 3]) (encc := ev_oL) (Q := ev_PU) (fun x S1 h => jt_218 d (by omega) Q x2 hx2 s57 x S1 h) (Or.inr (Or.inl rfl)) (by decide +kernel) (by decide +kernel) (by decide +kernel) (by decide +kernel) rfl (by (try simp only [ev_sum, ev_nv_cat]); first | done | rfl) ?_
    intro y60 s59 _
    show ev_w _ _ _ _ _ [.long y60, .long y58, .ref 3] _ _ _ _
    refine ev_r_virt (pc := 32) (y := 142) (mi := 90) (na := 2) (k := 3) (as := [.long y58, .long y60]) (rest := []) (encc := ev_oI) (Q := ev_bl) (fun x S1 h => jt_90 d (by omega) Q y58 y60  s59 x S1 h) (by exact ev_ob_3) (by decide +kernel) (by decide +kernel) (by decide +kernel) (by decide +kernel) rfl (by (try simp only [ev_sum, ev_nv_cat]); first | done | rfl) ?_
    intro x62 s61 hx62
    replace hx62 := ev_bl_rng hx62
    show ev_w _ _ _ _ _ [.int (Int32.ofInt x62)] _ _ _ _
    refine ev_r_chk ?_
    intro c63
    exact ev_r_ireturn (pc := 35) (x := x62) (v := Int32.ofInt x62) (ty := .boolean) c63 (by decide +kernel) (by decide +kernel) (ev_ret_bl c63) rfl
/-- MendBench$Reader.readNext()Z -/
def jm_85 (Q : Nat)  (S : ev_St) : Option ((Int) × ev_St) := ev_bd (jm_84 Q 0 S) fun x2 s1 => ev_b (s1.1 3 8) fun x3 => ev_ck (x3 + 1) fun x4 => ev_b (ev_pI s1 3 8 x4) fun s5 => if x2 = 36 then (ev_bd (jm_86 Q 4 s5) fun x8 s7 => ev_jn (fun (x9 : Int) (s11 : ev_St) => ev_bd (jm_88 Q x9 0 0 s11) fun x13 s12 => ev_if (ev_bl x13) (some (x13, s12))) fun K329 => if x8 = 0 then (K329 3 s7) else (K329 4 s7)) else (if x2 = 40 then (ev_bd (jm_102 Q  s5) fun x18 s17 => ev_if (ev_bl x18) (some (x18, s17))) else (if x2 = 41 then (ev_b (s5.1 3 10) fun x21 => if x21 < 0 then (some (0, s5)) else (ev_b (s5.1 3 10) fun x23 => if 152 ≤ x23 then (some (0, s5)) else (ev_b (s5.1 3 10) fun x25 => ev_if ((0 : Int) ≤ x25 ∧ x25 < (152 : Int)) (ev_b (17 + 1 * Int.toNat x25) fun _ => ev_b (s5.1 ((17 + 1 * Int.toNat x25)) 3) fun x28 => if x28 ≠ 0 then (some (0, s5)) else (ev_bd (jm_100 Q  s5) fun x31 s30 => if x31 = 0 then (some (0, s30)) else (some (1, s30))))))) else (if x2 = 42 then (ev_bd (jm_92 Q 0 ((-1)) s5) fun x35 s34 => ev_if (ev_bl x35) (some (x35, s34))) else (if x2 = 43 then (ev_bd (jm_92 Q 1 ((-1)) s5) fun x39 s38 => ev_if (ev_bl x39) (some (x39, s38))) else (if x2 = 46 then (ev_bd (jm_86 Q 2 s5) fun x43 s42 => ev_jn (fun (y44 : Int64) (s46 : ev_St) => ev_bd (jm_90 Q y44 ((9223372036854775807)) s46) fun x48 s47 => ev_if (ev_bl x48) (some (x48, s47))) fun K288 => if x43 = 0 then (K288 ((-4294967296)) s42) else (K288 ((-4294966272)) s42)) else (if x2 = 63 then (ev_bd (jm_92 Q 0 1 s5) fun x53 s52 => ev_if (ev_bl x53) (some (x53, s52))) else (if x2 = 91 then (ev_b (s5.2.2.1 3 7) fun r56 => ev_b (s5.1 3 8) fun x57 => ev_bd (jm_86 Q 1 s5) fun x59 s58 => ev_bd (jm_18 Q r56 x57 x59 s58) fun x61 s60 => ev_b (ev_pI s60 3 8 x61) fun s62 => ev_b (s62.1 3 8) fun x63 => if x63 < 0 then (some (0, s62)) else (ev_b (s62.2.1 6 11) fun y65 => ev_b (s62.2.1 6 12) fun y66 => ev_bd (jm_90 Q y65 y66 s62) fun x68 s67 => if x68 = 0 then (some (0, s67)) else (some (1, s67)))) else (if x2 = 92 then (ev_bd (jm_96 Q  s5) fun x72 s71 => ev_if (ev_bl x72) (some (x72, s71))) else (if x2 = 94 then (ev_bd (jm_86 Q 4 s5) fun x76 s75 => ev_jn (fun (x77 : Int) (s79 : ev_St) => ev_bd (jm_88 Q x77 0 0 s79) fun x81 s80 => ev_if (ev_bl x81) (some (x81, s80))) fun K309 => if x76 = 0 then (K309 1 s75) else (K309 2 s75)) else (if x2 = 123 then (ev_bd (jm_94 Q  s5) fun x86 s85 => ev_if (ev_bl x86) (some (x86, s85))) else (if x2 = 124 then (ev_bd (jm_101 Q  s5) fun x90 s89 => ev_if (ev_bl x90) (some (x90, s89))) else (ev_bd (jm_89 Q x2 s5) fun x93 s92 => ev_if (ev_bl x93) (some (x93, s92))))))))))))))
theorem jt_85 (d : Nat) (hd : 6 ≤ d) (Q : Nat)   (S : ev_St) (x : Int) (S' : ev_St) (hJ : jm_85 Q  S = some (x, S')) : ev_Ref d 85 [.ref 3] S (ev_eI x) S' (ev_bl x) := by
  obtain ⟨d, rfl⟩ : ∃ e, d = e + 1 := ⟨d - 1, by omega⟩
  refine ev_ref_of (P := ev_bl) (lv := [(0, .ref 3)]) (by decide +kernel) (by (try simp only [ev_sum, ev_nv_cat]); first | done | rfl) (by (try simp only [lv_args, ev_nv_cat]); first | done | rfl) ?_ x S' hJ
  unfold jm_85
  refine ev_r_aload_n (pc := 0) (k := 0) (v := .ref 3) trivial (by decide +kernel) (by rfl) ?_
  refine ev_r_iconst (pc := 1) (k := 0) (by decide +kernel) ?_
  refine ev_r_virt (pc := 2) (y := 108) (mi := 84) (na := 1) (k := 3) (as := [.int (Int32.ofInt 0)]) (rest := []) (encc := ev_oI) (Q := ev_rng) (fun x S1 h => jt_84 d (by omega) Q 0 (by decide) S x S1 h) (by exact ev_ob_3) (by decide +kernel) (by decide +kernel) (by decide +kernel) (by decide +kernel) rfl (by (try simp only [ev_sum, ev_nv_cat]); first | done | rfl) ?_
  intro x2 s1 hx2
  show ev_w _ _ _ _ _ [.int (Int32.ofInt x2)] _ _ _ _
  refine ev_r_istore_n (pc := 5) (k := 1) (by decide +kernel) (by decide +kernel) rfl ?_
  refine ev_r_aload_n (pc := 6) (k := 0) (v := .ref 3) trivial (by decide +kernel) (by exact (ev_lk_st1 (by rfl) (by decide) rfl)) ?_
  refine ev_r_dup (pc := 7) rfl (by decide +kernel) ?_
  refine ev_r_getI (pc := 8) (y := 63) (ci := 7) (f := 8) (fin := 0) (by decide +kernel) (by decide +kernel) (by exact ev_ob_3) rfl ?_
  intro x3 hx3
  refine ev_r_iconst (pc := 11) (k := 1) (by decide +kernel) ?_
  refine ev_r_iadd (pc := 12) (by decide +kernel) ?_
  intro x4 hx4
  refine ev_r_putI (pc := 13) (y := 63) (ci := 7) (f := 8) hx4 (by decide +kernel) (by decide +kernel) (by exact ev_ob_3) rfl rfl ?_
  intro s5
  refine ev_r_iload_n (pc := 16) (k := 1) (v := Int32.ofInt x2) (by decide +kernel) (by exact ev_lk_st1_self) ?_
  refine ev_r_ite ?_ ?_
  · intro c6
    refine ev_r_sw (pc := 17) (i := (.lookupswitch 318 #[(36, 298), (40, 107), (41, 112), (42, 171), (43, 178), (46, 253), (63, 164), (91, 190), (92, 248), (94, 278), (123, 185), (124, 159)])) (len := 107) (pc' := 315) (by decide +kernel) (by rw [c6]; rw [ev_pure_lsw]; exact ev_lsw_c (o := 298) (by decide) (by decide +kernel) (by decide +kernel) (by decide +kernel)) ?_
    refine ev_r_aload_n (pc := 315) (k := 0) (v := .ref 3) trivial (by decide +kernel) (by exact (ev_lk_st1 (by rfl) (by decide) rfl)) ?_
    refine ev_r_aload_n (pc := 316) (k := 0) (v := .ref 3) trivial (by decide +kernel) (by exact (ev_lk_st1 (by rfl) (by decide) rfl)) ?_
    refine ev_r_iconst (pc := 317) (k := 4) (by decide +kernel) ?_
    refine ev_r_virt (pc := 318) (y := 128) (mi := 86) (na := 1) (k := 3) (as := [.int (Int32.ofInt 4)]) (rest := [.ref 3]) (encc := ev_oI) (Q := ev_bl) (fun x S1 h => jt_86 d (by omega) Q 4 (by decide) s5 x S1 h) (by exact ev_ob_3) (by decide +kernel) (by decide +kernel) (by decide +kernel) (by decide +kernel) rfl (by (try simp only [ev_sum, ev_nv_cat]); first | done | rfl) ?_
    intro x8 s7 hx8
    replace hx8 := ev_bl_rng hx8
    show ev_w _ _ _ _ _ [.int (Int32.ofInt x8), .ref 3] _ _ _ _
    refine ev_r_jn (Q := fun K => ∀ (x9 : Int) (hx9 : ev_rng x9), ∀ (s11 : ev_St) (w10 : List (Nat × Value)), ev_w none (ev_Mof 85) d 329 w10 [.int (Int32.ofInt x9), .ref 3] s11 (K x9 s11) ev_eI ev_bl) ?_ ?_
    · intro x9 hx9 s11 w10 
      refine ev_r_iconst (pc := 329) (k := 0) (by decide +kernel) ?_
      refine ev_r_iconst (pc := 330) (k := 0) (by decide +kernel) ?_
      refine ev_r_virt (pc := 331) (y := 155) (mi := 88) (na := 3) (k := 3) (as := [.int (Int32.ofInt x9), .int (Int32.ofInt 0), .int (Int32.ofInt 0)]) (rest := []) (encc := ev_oI) (Q := ev_bl) (fun x S1 h => jt_88 d (by omega) Q x9 0 0 hx9 (by decide) (by decide) s11 x S1 h) (by exact ev_ob_3) (by decide +kernel) (by decide +kernel) (by decide +kernel) (by decide +kernel) rfl (by (try simp only [ev_sum, ev_nv_cat]); first | done | rfl) ?_
      intro x13 s12 hx13
      replace hx13 := ev_bl_rng hx13
      show ev_w _ _ _ _ _ [.int (Int32.ofInt x13)] _ _ _ _
      refine ev_r_chk ?_
      intro c14
      exact ev_r_ireturn (pc := 334) (x := x13) (v := Int32.ofInt x13) (ty := .boolean) c14 (by decide +kernel) (by decide +kernel) (ev_ret_bl c14) rfl
    · intro K329 hK329
      refine ev_r_if (pc := 321) (q := .eq) (o := 7) (t := 328) (c := x8 = 0) (by decide +kernel) (ev_k_eq hx8 ev_rng0) (by decide +kernel) ?_ ?_
      · intro c15
        refine ev_r_iconst (pc := 328) (k := 3) (by decide +kernel) ?_
        exact hK329 3 (by decide) s7 _ 
      · intro c15
        refine ev_r_iconst (pc := 324) (k := 4) (by decide +kernel) ?_
        refine ev_r_goto (pc := 325) (o := 4) (t := 329) (by decide +kernel) (by decide +kernel) ?_
        exact hK329 4 (by decide) s7 _ 
  · intro c6
    refine ev_r_ite ?_ ?_
    · intro c16
      refine ev_r_sw (pc := 17) (i := (.lookupswitch 318 #[(36, 298), (40, 107), (41, 112), (42, 171), (43, 178), (46, 253), (63, 164), (91, 190), (92, 248), (94, 278), (123, 185), (124, 159)])) (len := 107) (pc' := 124) (by decide +kernel) (by rw [c16]; rw [ev_pure_lsw]; exact ev_lsw_c (o := 107) (by decide) (by decide +kernel) (by decide +kernel) (by decide +kernel)) ?_
      refine ev_r_aload_n (pc := 124) (k := 0) (v := .ref 3) trivial (by decide +kernel) (by exact (ev_lk_st1 (by rfl) (by decide) rfl)) ?_
      refine ev_r_virt (pc := 125) (y := 111) (mi := 102) (na := 0) (k := 3) (as := []) (rest := []) (encc := ev_oI) (Q := ev_bl) (fun x S1 h => jt_102 d (by omega) Q   s5 x S1 h) (by exact ev_ob_3) (by decide +kernel) (by decide +kernel) (by decide +kernel) (by decide +kernel) rfl (by (try simp only [ev_sum, ev_nv_cat]); first | done | rfl) ?_
      intro x18 s17 hx18
      replace hx18 := ev_bl_rng hx18
      show ev_w _ _ _ _ _ [.int (Int32.ofInt x18)] _ _ _ _
      refine ev_r_chk ?_
      intro c19
      exact ev_r_ireturn (pc := 128) (x := x18) (v := Int32.ofInt x18) (ty := .boolean) c19 (by decide +kernel) (by decide +kernel) (ev_ret_bl c19) rfl
    · intro c16
      refine ev_r_ite ?_ ?_
      · intro c20
        refine ev_r_sw (pc := 17) (i := (.lookupswitch 318 #[(36, 298), (40, 107), (41, 112), (42, 171), (43, 178), (46, 253), (63, 164), (91, 190), (92, 248), (94, 278), (123, 185), (124, 159)])) (len := 107) (pc' := 129) (by decide +kernel) (by rw [c20]; rw [ev_pure_lsw]; exact ev_lsw_c (o := 112) (by decide) (by decide +kernel) (by decide +kernel) (by decide +kernel)) ?_
        refine ev_r_aload_n (pc := 129) (k := 0) (v := .ref 3) trivial (by decide +kernel) (by exact (ev_lk_st1 (by rfl) (by decide) rfl)) ?_
        refine ev_r_getI (pc := 130) (y := 69) (ci := 7) (f := 10) (fin := 0) (by decide +kernel) (by decide +kernel) (by exact ev_ob_3) rfl ?_
        intro x21 hx21
        refine ev_r_if (pc := 133) (q := .lt) (o := 41) (t := 174) (c := x21 < 0) (by decide +kernel) (ev_k_lt hx21 ev_rng0) (by decide +kernel) ?_ ?_
        · intro c22
          refine ev_r_iconst (pc := 174) (k := 0) (by decide +kernel) ?_
          exact ev_r_ireturn (pc := 175) (x := 0) (v := Int32.ofInt 0) (ty := .boolean) (by decide : ev_bl 0) (by decide +kernel) (by decide +kernel) (ev_ret_bl (by decide : ev_bl 0)) rfl
        · intro c22
          refine ev_r_aload_n (pc := 136) (k := 0) (v := .ref 3) trivial (by decide +kernel) (by exact (ev_lk_st1 (by rfl) (by decide) rfl)) ?_
          refine ev_r_getI (pc := 137) (y := 69) (ci := 7) (f := 10) (fin := 0) (by decide +kernel) (by decide +kernel) (by exact ev_ob_3) rfl ?_
          intro x23 hx23
          refine ev_r_aload_n (pc := 140) (k := 0) (v := .ref 3) trivial (by decide +kernel) (by exact (ev_lk_st1 (by rfl) (by decide) rfl)) ?_
          refine ev_r_getC (pc := 141) (y := 30) (ci := 7) (f := 3) (fin := 1) (k' := 14) (by decide +kernel) (by decide +kernel) (by exact ev_ob_3) rfl rfl ?_
          refine ev_r_alenC (pc := 144) (kd := 3) (N := 152) (t := (.object "MendBench$Open", 17, 1)) (Or.inl rfl) (by decide +kernel) (by decide +kernel) ?_
          refine ev_r_icmp (pc := 145) (q := .ge) (o := 29) (t := 174) (c := 152 ≤ x23) (by decide +kernel) (ev_k_ge hx23 (by decide)) (by decide +kernel) ?_ ?_
          · intro c24
            refine ev_r_iconst (pc := 174) (k := 0) (by decide +kernel) ?_
            exact ev_r_ireturn (pc := 175) (x := 0) (v := Int32.ofInt 0) (ty := .boolean) (by decide : ev_bl 0) (by decide +kernel) (by decide +kernel) (ev_ret_bl (by decide : ev_bl 0)) rfl
          · intro c24
            refine ev_r_aload_n (pc := 148) (k := 0) (v := .ref 3) trivial (by decide +kernel) (by exact (ev_lk_st1 (by rfl) (by decide) rfl)) ?_
            refine ev_r_getC (pc := 149) (y := 30) (ci := 7) (f := 3) (fin := 1) (k' := 14) (by decide +kernel) (by decide +kernel) (by exact ev_ob_3) rfl rfl ?_
            refine ev_r_aload_n (pc := 152) (k := 0) (v := .ref 3) trivial (by decide +kernel) (by exact (ev_lk_st1 (by rfl) (by decide) rfl)) ?_
            refine ev_r_getI (pc := 153) (y := 69) (ci := 7) (f := 10) (fin := 0) (by decide +kernel) (by decide +kernel) (by exact ev_ob_3) rfl ?_
            intro x25 hx25
            refine ev_r_aald (pc := 156) (N := 152) (b := 17) (c := 1) (C := "MendBench$Open") hx25 (by decide +kernel) (by decide +kernel) ?_
            intro c26
            refine ev_r_getI (pc := 157) (y := 114) (ci := 4) (f := 3) (fin := 0) (by decide +kernel) (by decide +kernel) (by exact (ev_el_14 c26)) rfl ?_
            intro x28 hx28
            refine ev_r_if (pc := 160) (q := .ne) (o := 14) (t := 174) (c := x28 ≠ 0) (by decide +kernel) (ev_k_ne hx28 ev_rng0) (by decide +kernel) ?_ ?_
            · intro c29
              refine ev_r_iconst (pc := 174) (k := 0) (by decide +kernel) ?_
              exact ev_r_ireturn (pc := 175) (x := 0) (v := Int32.ofInt 0) (ty := .boolean) (by decide : ev_bl 0) (by decide +kernel) (by decide +kernel) (ev_ret_bl (by decide : ev_bl 0)) rfl
            · intro c29
              refine ev_r_aload_n (pc := 163) (k := 0) (v := .ref 3) trivial (by decide +kernel) (by exact (ev_lk_st1 (by rfl) (by decide) rfl)) ?_
              refine ev_r_virt (pc := 164) (y := 91) (mi := 100) (na := 0) (k := 3) (as := []) (rest := []) (encc := ev_oI) (Q := ev_bl) (fun x S1 h => jt_100 d (by omega) Q   s5 x S1 h) (by exact ev_ob_3) (by decide +kernel) (by decide +kernel) (by decide +kernel) (by decide +kernel) rfl (by (try simp only [ev_sum, ev_nv_cat]); first | done | rfl) ?_
              intro x31 s30 hx31
              replace hx31 := ev_bl_rng hx31
              show ev_w _ _ _ _ _ [.int (Int32.ofInt x31)] _ _ _ _
              refine ev_r_if (pc := 167) (q := .eq) (o := 7) (t := 174) (c := x31 = 0) (by decide +kernel) (ev_k_eq hx31 ev_rng0) (by decide +kernel) ?_ ?_
              · intro c32
                refine ev_r_iconst (pc := 174) (k := 0) (by decide +kernel) ?_
                exact ev_r_ireturn (pc := 175) (x := 0) (v := Int32.ofInt 0) (ty := .boolean) (by decide : ev_bl 0) (by decide +kernel) (by decide +kernel) (ev_ret_bl (by decide : ev_bl 0)) rfl
              · intro c32
                refine ev_r_iconst (pc := 170) (k := 1) (by decide +kernel) ?_
                refine ev_r_goto (pc := 171) (o := 4) (t := 175) (by decide +kernel) (by decide +kernel) ?_
                exact ev_r_ireturn (pc := 175) (x := 1) (v := Int32.ofInt 1) (ty := .boolean) (by decide : ev_bl 1) (by decide +kernel) (by decide +kernel) (ev_ret_bl (by decide : ev_bl 1)) rfl
      · intro c20
        refine ev_r_ite ?_ ?_
        · intro c33
          refine ev_r_sw (pc := 17) (i := (.lookupswitch 318 #[(36, 298), (40, 107), (41, 112), (42, 171), (43, 178), (46, 253), (63, 164), (91, 190), (92, 248), (94, 278), (123, 185), (124, 159)])) (len := 107) (pc' := 188) (by decide +kernel) (by rw [c33]; rw [ev_pure_lsw]; exact ev_lsw_c (o := 171) (by decide) (by decide +kernel) (by decide +kernel) (by decide +kernel)) ?_
          refine ev_r_aload_n (pc := 188) (k := 0) (v := .ref 3) trivial (by decide +kernel) (by exact (ev_lk_st1 (by rfl) (by decide) rfl)) ?_
          refine ev_r_iconst (pc := 189) (k := 0) (by decide +kernel) ?_
          refine ev_r_iconst (pc := 190) (k := -1) (by decide +kernel) ?_
          refine ev_r_virt (pc := 191) (y := 121) (mi := 92) (na := 2) (k := 3) (as := [.int (Int32.ofInt 0), .int (Int32.ofInt ((-1)))]) (rest := []) (encc := ev_oI) (Q := ev_bl) (fun x S1 h => jt_92 d (by omega) Q 0 ((-1)) (by decide) (by decide) s5 x S1 h) (by exact ev_ob_3) (by decide +kernel) (by decide +kernel) (by decide +kernel) (by decide +kernel) rfl (by (try simp only [ev_sum, ev_nv_cat]); first | done | rfl) ?_
          intro x35 s34 hx35
          replace hx35 := ev_bl_rng hx35
          show ev_w _ _ _ _ _ [.int (Int32.ofInt x35)] _ _ _ _
          refine ev_r_chk ?_
          intro c36
          exact ev_r_ireturn (pc := 194) (x := x35) (v := Int32.ofInt x35) (ty := .boolean) c36 (by decide +kernel) (by decide +kernel) (ev_ret_bl c36) rfl
        · intro c33
          refine ev_r_ite ?_ ?_
          · intro c37
            refine ev_r_sw (pc := 17) (i := (.lookupswitch 318 #[(36, 298), (40, 107), (41, 112), (42, 171), (43, 178), (46, 253), (63, 164), (91, 190), (92, 248), (94, 278), (123, 185), (124, 159)])) (len := 107) (pc' := 195) (by decide +kernel) (by rw [c37]; rw [ev_pure_lsw]; exact ev_lsw_c (o := 178) (by decide) (by decide +kernel) (by decide +kernel) (by decide +kernel)) ?_
            refine ev_r_aload_n (pc := 195) (k := 0) (v := .ref 3) trivial (by decide +kernel) (by exact (ev_lk_st1 (by rfl) (by decide) rfl)) ?_
            refine ev_r_iconst (pc := 196) (k := 1) (by decide +kernel) ?_
            refine ev_r_iconst (pc := 197) (k := -1) (by decide +kernel) ?_
            refine ev_r_virt (pc := 198) (y := 121) (mi := 92) (na := 2) (k := 3) (as := [.int (Int32.ofInt 1), .int (Int32.ofInt ((-1)))]) (rest := []) (encc := ev_oI) (Q := ev_bl) (fun x S1 h => jt_92 d (by omega) Q 1 ((-1)) (by decide) (by decide) s5 x S1 h) (by exact ev_ob_3) (by decide +kernel) (by decide +kernel) (by decide +kernel) (by decide +kernel) rfl (by (try simp only [ev_sum, ev_nv_cat]); first | done | rfl) ?_
            intro x39 s38 hx39
            replace hx39 := ev_bl_rng hx39
            show ev_w _ _ _ _ _ [.int (Int32.ofInt x39)] _ _ _ _
            refine ev_r_chk ?_
            intro c40
            exact ev_r_ireturn (pc := 201) (x := x39) (v := Int32.ofInt x39) (ty := .boolean) c40 (by decide +kernel) (by decide +kernel) (ev_ret_bl c40) rfl
          · intro c37
            refine ev_r_ite ?_ ?_
            · intro c41
              refine ev_r_sw (pc := 17) (i := (.lookupswitch 318 #[(36, 298), (40, 107), (41, 112), (42, 171), (43, 178), (46, 253), (63, 164), (91, 190), (92, 248), (94, 278), (123, 185), (124, 159)])) (len := 107) (pc' := 270) (by decide +kernel) (by rw [c41]; rw [ev_pure_lsw]; exact ev_lsw_c (o := 253) (by decide) (by decide +kernel) (by decide +kernel) (by decide +kernel)) ?_
              refine ev_r_aload_n (pc := 270) (k := 0) (v := .ref 3) trivial (by decide +kernel) (by exact (ev_lk_st1 (by rfl) (by decide) rfl)) ?_
              refine ev_r_aload_n (pc := 271) (k := 0) (v := .ref 3) trivial (by decide +kernel) (by exact (ev_lk_st1 (by rfl) (by decide) rfl)) ?_
              refine ev_r_iconst (pc := 272) (k := 2) (by decide +kernel) ?_
              refine ev_r_virt (pc := 273) (y := 128) (mi := 86) (na := 1) (k := 3) (as := [.int (Int32.ofInt 2)]) (rest := [.ref 3]) (encc := ev_oI) (Q := ev_bl) (fun x S1 h => jt_86 d (by omega) Q 2 (by decide) s5 x S1 h) (by exact ev_ob_3) (by decide +kernel) (by decide +kernel) (by decide +kernel) (by decide +kernel) rfl (by (try simp only [ev_sum, ev_nv_cat]); first | done | rfl) ?_
              intro x43 s42 hx43
              replace hx43 := ev_bl_rng hx43
              show ev_w _ _ _ _ _ [.int (Int32.ofInt x43), .ref 3] _ _ _ _
              refine ev_r_jn (Q := fun K => ∀ (y44 : Int64), ∀ (s46 : ev_St) (w45 : List (Nat × Value)), ev_w none (ev_Mof 85) d 288 w45 [.long y44, .ref 3] s46 (K y44 s46) ev_eI ev_bl) ?_ ?_
              · intro y44 s46 w45 
                refine ev_r_ldc2 (pc := 288) (y := 153) (k := 9223372036854775807) (by decide +kernel) (by decide +kernel) ?_
                refine ev_r_virt (pc := 291) (y := 142) (mi := 90) (na := 2) (k := 3) (as := [.long y44, .long ((9223372036854775807))]) (rest := []) (encc := ev_oI) (Q := ev_bl) (fun x S1 h => jt_90 d (by omega) Q y44 ((9223372036854775807))  s46 x S1 h) (by exact ev_ob_3) (by decide +kernel) (by decide +kernel) (by decide +kernel) (by decide +kernel) rfl (by (try simp only [ev_sum, ev_nv_cat]); first | done | rfl) ?_
                intro x48 s47 hx48
                replace hx48 := ev_bl_rng hx48
                show ev_w _ _ _ _ _ [.int (Int32.ofInt x48)] _ _ _ _
                refine ev_r_chk ?_
                intro c49
                exact ev_r_ireturn (pc := 294) (x := x48) (v := Int32.ofInt x48) (ty := .boolean) c49 (by decide +kernel) (by decide +kernel) (ev_ret_bl c49) rfl
              · intro K288 hK288
                refine ev_r_if (pc := 276) (q := .eq) (o := 9) (t := 285) (c := x43 = 0) (by decide +kernel) (ev_k_eq hx43 ev_rng0) (by decide +kernel) ?_ ?_
                · intro c50
                  refine ev_r_ldc2 (pc := 285) (y := 151) (k := -4294967296) (by decide +kernel) (by decide +kernel) ?_
                  exact hK288 ((-4294967296)) s42 _ 
                · intro c50
                  refine ev_r_ldc2 (pc := 279) (y := 149) (k := -4294966272) (by decide +kernel) (by decide +kernel) ?_
                  refine ev_r_goto (pc := 282) (o := 6) (t := 288) (by decide +kernel) (by decide +kernel) ?_
                  exact hK288 ((-4294966272)) s42 _ 
            · intro c41
              refine ev_r_ite ?_ ?_
              · intro c51
                refine ev_r_sw (pc := 17) (i := (.lookupswitch 318 #[(36, 298), (40, 107), (41, 112), (42, 171), (43, 178), (46, 253), (63, 164), (91, 190), (92, 248), (94, 278), (123, 185), (124, 159)])) (len := 107) (pc' := 181) (by decide +kernel) (by rw [c51]; rw [ev_pure_lsw]; exact ev_lsw_c (o := 164) (by decide) (by decide +kernel) (by decide +kernel) (by decide +kernel)) ?_
                refine ev_r_aload_n (pc := 181) (k := 0) (v := .ref 3) trivial (by decide +kernel) (by exact (ev_lk_st1 (by rfl) (by decide) rfl)) ?_
                refine ev_r_iconst (pc := 182) (k := 0) (by decide +kernel) ?_
                refine ev_r_iconst (pc := 183) (k := 1) (by decide +kernel) ?_
                refine ev_r_virt (pc := 184) (y := 121) (mi := 92) (na := 2) (k := 3) (as := [.int (Int32.ofInt 0), .int (Int32.ofInt 1)]) (rest := []) (encc := ev_oI) (Q := ev_bl) (fun x S1 h => jt_92 d (by omega) Q 0 1 (by decide) (by decide) s5 x S1 h) (by exact ev_ob_3) (by decide +kernel) (by decide +kernel) (by decide +kernel) (by decide +kernel) rfl (by (try simp only [ev_sum, ev_nv_cat]); first | done | rfl) ?_
                intro x53 s52 hx53
                replace hx53 := ev_bl_rng hx53
                show ev_w _ _ _ _ _ [.int (Int32.ofInt x53)] _ _ _ _
                refine ev_r_chk ?_
                intro c54
                exact ev_r_ireturn (pc := 187) (x := x53) (v := Int32.ofInt x53) (ty := .boolean) c54 (by decide +kernel) (by decide +kernel) (ev_ret_bl c54) rfl
              · intro c51
                refine ev_r_ite ?_ ?_
                · intro c55
                  refine ev_r_sw (pc := 17) (i := (.lookupswitch 318 #[(36, 298), (40, 107), (41, 112), (42, 171), (43, 178), (46, 253), (63, 164), (91, 190), (92, 248), (94, 278), (123, 185), (124, 159)])) (len := 107) (pc' := 207) (by decide +kernel) (by rw [c55]; rw [ev_pure_lsw]; exact ev_lsw_c (o := 190) (by decide) (by decide +kernel) (by decide +kernel) (by decide +kernel)) ?_
                  refine ev_r_aload_n (pc := 207) (k := 0) (v := .ref 3) trivial (by decide +kernel) (by exact (ev_lk_st1 (by rfl) (by decide) rfl)) ?_
                  refine ev_r_aload_n (pc := 208) (k := 0) (v := .ref 3) trivial (by decide +kernel) (by exact (ev_lk_st1 (by rfl) (by decide) rfl)) ?_
                  refine ev_r_getC (pc := 209) (y := 24) (ci := 7) (f := 2) (fin := 1) (k' := 6) (by decide +kernel) (by decide +kernel) (by exact ev_ob_3) rfl rfl ?_
                  refine ev_r_aload_n (pc := 212) (k := 0) (v := .ref 3) trivial (by decide +kernel) (by exact (ev_lk_st1 (by rfl) (by decide) rfl)) ?_
                  refine ev_r_getR (pc := 213) (y := 51) (ci := 7) (f := 7) (fin := 0) (t := 10) (by decide +kernel) (by decide +kernel) (by exact ev_ob_3) rfl rfl ?_
                  intro r56 hr56
                  have hr56 : r56 = 0 ∨ ev_isOb (r56 - 1) 10 = true := hr56
                  refine ev_r_aload_n (pc := 216) (k := 0) (v := .ref 3) trivial (by decide +kernel) (by exact (ev_lk_st1 (by rfl) (by decide) rfl)) ?_
                  refine ev_r_getI (pc := 217) (y := 63) (ci := 7) (f := 8) (fin := 0) (by decide +kernel) (by decide +kernel) (by exact ev_ob_3) rfl ?_
                  intro x57 hx57
                  refine ev_r_aload_n (pc := 220) (k := 0) (v := .ref 3) trivial (by decide +kernel) (by exact (ev_lk_st1 (by rfl) (by decide) rfl)) ?_
                  refine ev_r_iconst (pc := 221) (k := 1) (by decide +kernel) ?_
                  refine ev_r_virt (pc := 222) (y := 128) (mi := 86) (na := 1) (k := 3) (as := [.int (Int32.ofInt 1)]) (rest := [.int (Int32.ofInt x57), ev_nv r56, .ref 6, .ref 3]) (encc := ev_oI) (Q := ev_bl) (fun x S1 h => jt_86 d (by omega) Q 1 (by decide) s5 x S1 h) (by exact ev_ob_3) (by decide +kernel) (by decide +kernel) (by decide +kernel) (by decide +kernel) rfl (by (try simp only [ev_sum, ev_nv_cat]); first | done | rfl) ?_
                  intro x59 s58 hx59
                  replace hx59 := ev_bl_rng hx59
                  show ev_w _ _ _ _ _ [.int (Int32.ofInt x59), .int (Int32.ofInt x57), ev_nv r56, .ref 6, .ref 3] _ _ _ _
                  refine ev_r_virt (pc := 225) (y := 131) (mi := 18) (na := 3) (k := 6) (as := [ev_nv r56, .int (Int32.ofInt x57), .int (Int32.ofInt x59)]) (rest := [.ref 3]) (encc := ev_oI) (Q := ev_rng) (fun x S1 h => jt_18 d (by omega) Q r56 x57 x59 (by exact hr56) hx57 hx59 s58 x S1 h) (by exact ev_ob_6) (by decide +kernel) (by decide +kernel) (by decide +kernel) (by decide +kernel) rfl (by (try simp only [ev_sum, ev_nv_cat]); first | done | rfl) ?_
                  intro x61 s60 hx61
                  show ev_w _ _ _ _ _ [.int (Int32.ofInt x61), .ref 3] _ _ _ _
                  refine ev_r_putI (pc := 228) (y := 63) (ci := 7) (f := 8) hx61 (by decide +kernel) (by decide +kernel) (by exact ev_ob_3) rfl rfl ?_
                  intro s62
                  refine ev_r_aload_n (pc := 231) (k := 0) (v := .ref 3) trivial (by decide +kernel) (by exact (ev_lk_st1 (by rfl) (by decide) rfl)) ?_
                  refine ev_r_getI (pc := 232) (y := 63) (ci := 7) (f := 8) (fin := 0) (by decide +kernel) (by decide +kernel) (by exact ev_ob_3) rfl ?_
                  intro x63 hx63
                  refine ev_r_if (pc := 235) (q := .lt) (o := 28) (t := 263) (c := x63 < 0) (by decide +kernel) (ev_k_lt hx63 ev_rng0) (by decide +kernel) ?_ ?_
                  · intro c64
                    refine ev_r_iconst (pc := 263) (k := 0) (by decide +kernel) ?_
                    exact ev_r_ireturn (pc := 264) (x := 0) (v := Int32.ofInt 0) (ty := .boolean) (by decide : ev_bl 0) (by decide +kernel) (by decide +kernel) (ev_ret_bl (by decide : ev_bl 0)) rfl
                  · intro c64
                    refine ev_r_aload_n (pc := 238) (k := 0) (v := .ref 3) trivial (by decide +kernel) (by exact (ev_lk_st1 (by rfl) (by decide) rfl)) ?_
                    refine ev_r_aload_n (pc := 239) (k := 0) (v := .ref 3) trivial (by decide +kernel) (by exact (ev_lk_st1 (by rfl) (by decide) rfl)) ?_
                    refine ev_r_getC (pc := 240) (y := 24) (ci := 7) (f := 2) (fin := 1) (k' := 6) (by decide +kernel) (by decide +kernel) (by exact ev_ob_3) rfl rfl ?_
                    refine ev_r_getL (pc := 243) (y := 135) (ci := 1) (f := 11) (fin := 0) (by decide +kernel) (by decide +kernel) (by exact ev_ob_6) rfl ?_
                    intro y65
                    refine ev_r_aload_n (pc := 246) (k := 0) (v := .ref 3) trivial (by decide +kernel) (by exact (ev_lk_st1 (by rfl) (by decide) rfl)) ?_
                    refine ev_r_getC (pc := 247) (y := 24) (ci := 7) (f := 2) (fin := 1) (k' := 6) (by decide +kernel) (by decide +kernel) (by exact ev_ob_3) rfl rfl ?_
                    refine ev_r_getL (pc := 250) (y := 139) (ci := 1) (f := 12) (fin := 0) (by decide +kernel) (by decide +kernel) (by exact ev_ob_6) rfl ?_
                    intro y66
                    refine ev_r_virt (pc := 253) (y := 142) (mi := 90) (na := 2) (k := 3) (as := [.long y65, .long y66]) (rest := []) (encc := ev_oI) (Q := ev_bl) (fun x S1 h => jt_90 d (by omega) Q y65 y66  s62 x S1 h) (by exact ev_ob_3) (by decide +kernel) (by decide +kernel) (by decide +kernel) (by decide +kernel) rfl (by (try simp only [ev_sum, ev_nv_cat]); first | done | rfl) ?_
                    intro x68 s67 hx68
                    replace hx68 := ev_bl_rng hx68
                    show ev_w _ _ _ _ _ [.int (Int32.ofInt x68)] _ _ _ _
                    refine ev_r_if (pc := 256) (q := .eq) (o := 7) (t := 263) (c := x68 = 0) (by decide +kernel) (ev_k_eq hx68 ev_rng0) (by decide +kernel) ?_ ?_
                    · intro c69
                      refine ev_r_iconst (pc := 263) (k := 0) (by decide +kernel) ?_
                      exact ev_r_ireturn (pc := 264) (x := 0) (v := Int32.ofInt 0) (ty := .boolean) (by decide : ev_bl 0) (by decide +kernel) (by decide +kernel) (ev_ret_bl (by decide : ev_bl 0)) rfl
                    · intro c69
                      refine ev_r_iconst (pc := 259) (k := 1) (by decide +kernel) ?_
                      refine ev_r_goto (pc := 260) (o := 4) (t := 264) (by decide +kernel) (by decide +kernel) ?_
                      exact ev_r_ireturn (pc := 264) (x := 1) (v := Int32.ofInt 1) (ty := .boolean) (by decide : ev_bl 1) (by decide +kernel) (by decide +kernel) (ev_ret_bl (by decide : ev_bl 1)) rfl
                · intro c55
                  refine ev_r_ite ?_ ?_
                  · intro c70
                    refine ev_r_sw (pc := 17) (i := (.lookupswitch 318 #[(36, 298), (40, 107), (41, 112), (42, 171), (43, 178), (46, 253), (63, 164), (91, 190), (92, 248), (94, 278), (123, 185), (124, 159)])) (len := 107) (pc' := 265) (by decide +kernel) (by rw [c70]; rw [ev_pure_lsw]; exact ev_lsw_c (o := 248) (by decide) (by decide +kernel) (by decide +kernel) (by decide +kernel)) ?_
                    refine ev_r_aload_n (pc := 265) (k := 0) (v := .ref 3) trivial (by decide +kernel) (by exact (ev_lk_st1 (by rfl) (by decide) rfl)) ?_
                    refine ev_r_virt (pc := 266) (y := 146) (mi := 96) (na := 0) (k := 3) (as := []) (rest := []) (encc := ev_oI) (Q := ev_bl) (fun x S1 h => jt_96 d (by omega) Q   s5 x S1 h) (by exact ev_ob_3) (by decide +kernel) (by decide +kernel) (by decide +kernel) (by decide +kernel) rfl (by (try simp only [ev_sum, ev_nv_cat]); first | done | rfl) ?_
                    intro x72 s71 hx72
                    replace hx72 := ev_bl_rng hx72
                    show ev_w _ _ _ _ _ [.int (Int32.ofInt x72)] _ _ _ _
                    refine ev_r_chk ?_
                    intro c73
                    exact ev_r_ireturn (pc := 269) (x := x72) (v := Int32.ofInt x72) (ty := .boolean) c73 (by decide +kernel) (by decide +kernel) (ev_ret_bl c73) rfl
                  · intro c70
                    refine ev_r_ite ?_ ?_
                    · intro c74
                      refine ev_r_sw (pc := 17) (i := (.lookupswitch 318 #[(36, 298), (40, 107), (41, 112), (42, 171), (43, 178), (46, 253), (63, 164), (91, 190), (92, 248), (94, 278), (123, 185), (124, 159)])) (len := 107) (pc' := 295) (by decide +kernel) (by rw [c74]; rw [ev_pure_lsw]; exact ev_lsw_c (o := 278) (by decide) (by decide +kernel) (by decide +kernel) (by decide +kernel)) ?_
                      refine ev_r_aload_n (pc := 295) (k := 0) (v := .ref 3) trivial (by decide +kernel) (by exact (ev_lk_st1 (by rfl) (by decide) rfl)) ?_
                      refine ev_r_aload_n (pc := 296) (k := 0) (v := .ref 3) trivial (by decide +kernel) (by exact (ev_lk_st1 (by rfl) (by decide) rfl)) ?_
                      refine ev_r_iconst (pc := 297) (k := 4) (by decide +kernel) ?_
                      refine ev_r_virt (pc := 298) (y := 128) (mi := 86) (na := 1) (k := 3) (as := [.int (Int32.ofInt 4)]) (rest := [.ref 3]) (encc := ev_oI) (Q := ev_bl) (fun x S1 h => jt_86 d (by omega) Q 4 (by decide) s5 x S1 h) (by exact ev_ob_3) (by decide +kernel) (by decide +kernel) (by decide +kernel) (by decide +kernel) rfl (by (try simp only [ev_sum, ev_nv_cat]); first | done | rfl) ?_
                      intro x76 s75 hx76
                      replace hx76 := ev_bl_rng hx76
                      show ev_w _ _ _ _ _ [.int (Int32.ofInt x76), .ref 3] _ _ _ _
                      refine ev_r_jn (Q := fun K => ∀ (x77 : Int) (hx77 : ev_rng x77), ∀ (s79 : ev_St) (w78 : List (Nat × Value)), ev_w none (ev_Mof 85) d 309 w78 [.int (Int32.ofInt x77), .ref 3] s79 (K x77 s79) ev_eI ev_bl) ?_ ?_
                      · intro x77 hx77 s79 w78 
                        refine ev_r_iconst (pc := 309) (k := 0) (by decide +kernel) ?_
                        refine ev_r_iconst (pc := 310) (k := 0) (by decide +kernel) ?_
                        refine ev_r_virt (pc := 311) (y := 155) (mi := 88) (na := 3) (k := 3) (as := [.int (Int32.ofInt x77), .int (Int32.ofInt 0), .int (Int32.ofInt 0)]) (rest := []) (encc := ev_oI) (Q := ev_bl) (fun x S1 h => jt_88 d (by omega) Q x77 0 0 hx77 (by decide) (by decide) s79 x S1 h) (by exact ev_ob_3) (by decide +kernel) (by decide +kernel) (by decide +kernel) (by decide +kernel) rfl (by (try simp only [ev_sum, ev_nv_cat]); first | done | rfl) ?_
                        intro x81 s80 hx81
                        replace hx81 := ev_bl_rng hx81
                        show ev_w _ _ _ _ _ [.int (Int32.ofInt x81)] _ _ _ _
                        refine ev_r_chk ?_
                        intro c82
                        exact ev_r_ireturn (pc := 314) (x := x81) (v := Int32.ofInt x81) (ty := .boolean) c82 (by decide +kernel) (by decide +kernel) (ev_ret_bl c82) rfl
                      · intro K309 hK309
                        refine ev_r_if (pc := 301) (q := .eq) (o := 7) (t := 308) (c := x76 = 0) (by decide +kernel) (ev_k_eq hx76 ev_rng0) (by decide +kernel) ?_ ?_
                        · intro c83
                          refine ev_r_iconst (pc := 308) (k := 1) (by decide +kernel) ?_
                          exact hK309 1 (by decide) s75 _ 
                        · intro c83
                          refine ev_r_iconst (pc := 304) (k := 2) (by decide +kernel) ?_
                          refine ev_r_goto (pc := 305) (o := 4) (t := 309) (by decide +kernel) (by decide +kernel) ?_
                          exact hK309 2 (by decide) s75 _ 
                    · intro c74
                      refine ev_r_ite ?_ ?_
                      · intro c84
                        refine ev_r_sw (pc := 17) (i := (.lookupswitch 318 #[(36, 298), (40, 107), (41, 112), (42, 171), (43, 178), (46, 253), (63, 164), (91, 190), (92, 248), (94, 278), (123, 185), (124, 159)])) (len := 107) (pc' := 202) (by decide +kernel) (by rw [c84]; rw [ev_pure_lsw]; exact ev_lsw_c (o := 185) (by decide) (by decide +kernel) (by decide +kernel) (by decide +kernel)) ?_
                        refine ev_r_aload_n (pc := 202) (k := 0) (v := .ref 3) trivial (by decide +kernel) (by exact (ev_lk_st1 (by rfl) (by decide) rfl)) ?_
                        refine ev_r_virt (pc := 203) (y := 125) (mi := 94) (na := 0) (k := 3) (as := []) (rest := []) (encc := ev_oI) (Q := ev_bl) (fun x S1 h => jt_94 d (by omega) Q   s5 x S1 h) (by exact ev_ob_3) (by decide +kernel) (by decide +kernel) (by decide +kernel) (by decide +kernel) rfl (by (try simp only [ev_sum, ev_nv_cat]); first | done | rfl) ?_
                        intro x86 s85 hx86
                        replace hx86 := ev_bl_rng hx86
                        show ev_w _ _ _ _ _ [.int (Int32.ofInt x86)] _ _ _ _
                        refine ev_r_chk ?_
                        intro c87
                        exact ev_r_ireturn (pc := 206) (x := x86) (v := Int32.ofInt x86) (ty := .boolean) c87 (by decide +kernel) (by decide +kernel) (ev_ret_bl c87) rfl
                      · intro c84
                        refine ev_r_ite ?_ ?_
                        · intro c88
                          refine ev_r_sw (pc := 17) (i := (.lookupswitch 318 #[(36, 298), (40, 107), (41, 112), (42, 171), (43, 178), (46, 253), (63, 164), (91, 190), (92, 248), (94, 278), (123, 185), (124, 159)])) (len := 107) (pc' := 176) (by decide +kernel) (by rw [c88]; rw [ev_pure_lsw]; exact ev_lsw_c (o := 159) (by decide) (by decide +kernel) (by decide +kernel) (by decide +kernel)) ?_
                          refine ev_r_aload_n (pc := 176) (k := 0) (v := .ref 3) trivial (by decide +kernel) (by exact (ev_lk_st1 (by rfl) (by decide) rfl)) ?_
                          refine ev_r_virt (pc := 177) (y := 118) (mi := 101) (na := 0) (k := 3) (as := []) (rest := []) (encc := ev_oI) (Q := ev_bl) (fun x S1 h => jt_101 d (by omega) Q   s5 x S1 h) (by exact ev_ob_3) (by decide +kernel) (by decide +kernel) (by decide +kernel) (by decide +kernel) rfl (by (try simp only [ev_sum, ev_nv_cat]); first | done | rfl) ?_
                          intro x90 s89 hx90
                          replace hx90 := ev_bl_rng hx90
                          show ev_w _ _ _ _ _ [.int (Int32.ofInt x90)] _ _ _ _
                          refine ev_r_chk ?_
                          intro c91
                          exact ev_r_ireturn (pc := 180) (x := x90) (v := Int32.ofInt x90) (ty := .boolean) c91 (by decide +kernel) (by decide +kernel) (ev_ret_bl c91) rfl
                        · intro c88
                          refine ev_r_sw (pc := 17) (i := (.lookupswitch 318 #[(36, 298), (40, 107), (41, 112), (42, 171), (43, 178), (46, 253), (63, 164), (91, 190), (92, 248), (94, 278), (123, 185), (124, 159)])) (len := 107) (pc' := 335) (by decide +kernel) (by rw [ev_pure_lsw]; exact ev_lsw_c (o := 318) hx2 (by decide +kernel) (by show Op.lookupswitch.offset [(36, 298), (40, 107), (41, 112), (42, 171), (43, 178), (46, 253), (63, 164), (91, 190), (92, 248), (94, 278), (123, 185), (124, 159)] 318 x2 = 318; rw [Op.lookupswitch.offset_cons, if_neg (by omega), Op.lookupswitch.offset_cons, if_neg (by omega), Op.lookupswitch.offset_cons, if_neg (by omega), Op.lookupswitch.offset_cons, if_neg (by omega), Op.lookupswitch.offset_cons, if_neg (by omega), Op.lookupswitch.offset_cons, if_neg (by omega), Op.lookupswitch.offset_cons, if_neg (by omega), Op.lookupswitch.offset_cons, if_neg (by omega), Op.lookupswitch.offset_cons, if_neg (by omega), Op.lookupswitch.offset_cons, if_neg (by omega), Op.lookupswitch.offset_cons, if_neg (by omega), Op.lookupswitch.offset_cons, if_neg (by omega), Op.lookupswitch.offset_nil]) (by decide +kernel)) ?_
                          refine ev_r_aload_n (pc := 335) (k := 0) (v := .ref 3) trivial (by decide +kernel) (by exact (ev_lk_st1 (by rfl) (by decide) rfl)) ?_
                          refine ev_r_iload_n (pc := 336) (k := 1) (v := Int32.ofInt x2) (by decide +kernel) (by exact ev_lk_st1_self) ?_
                          refine ev_r_virt (pc := 337) (y := 159) (mi := 89) (na := 1) (k := 3) (as := [.int (Int32.ofInt x2)]) (rest := []) (encc := ev_oI) (Q := ev_bl) (fun x S1 h => jt_89 d (by omega) Q x2 hx2 s5 x S1 h) (by exact ev_ob_3) (by decide +kernel) (by decide +kernel) (by decide +kernel) (by decide +kernel) rfl (by (try simp only [ev_sum, ev_nv_cat]); first | done | rfl) ?_
                          intro x93 s92 hx93
                          replace hx93 := ev_bl_rng hx93
                          show ev_w _ _ _ _ _ [.int (Int32.ofInt x93)] _ _ _ _
                          refine ev_r_chk ?_
                          intro c94
                          exact ev_r_ireturn (pc := 340) (x := x93) (v := Int32.ofInt x93) (ty := .boolean) c94 (by decide +kernel) (by decide +kernel) (ev_ret_bl c94) rfl
def jb_83_59 (Q : Nat)   (K59 : Int → ev_St → Option ((Int) × ev_St)) (x14 : Int) (s18 : ev_St) : Option ((Int) × ev_St) := if 100000 ≤ x14 then (some (0, s18)) else (ev_b (s18.1 3 8) fun x20 => ev_b (s18.2.2.1 3 7) fun r21 => ev_if (r21 ≠ 0) (ev_b (s18.1 ((r21 - 1)) 1) fun x23 => ev_jn (fun (x24 : Int) (s28 : ev_St) => ev_jn (fun (x29 : Int) (s34 : ev_St) => ev_jn (fun  (s38 : ev_St) => ev_ck (x14 + 1) fun x39 => K59 x39 s38) fun K150 => if x29 = 0 then (ev_bd (jm_85 Q  s34) fun x42 s41 => if x42 ≠ 0 then (K150  s41) else (some (0, s41))) else (ev_bd (jm_112 Q  s34) fun x45 s44 => if x45 = 0 then (some (0, s44)) else (K150  s44))) fun K126 => if x24 = 0 then (K126 x24 s28) else (ev_b (s28.1 3 6) fun x48 => if x48 ≠ 0 then (K126 x24 s28) else (ev_b (s28.1 3 10) fun x50 => if x50 ≠ 0 then (some (0, s28)) else (ev_bd (jm_100 Q  s28) fun x53 s52 => if x53 = 0 then (some (0, s52)) else (ev_bd (jm_113 Q  s52) fun x56 s55 => if x56 = 0 then (some (0, s55)) else (some (1, s55))))))) fun K85 => if x20 < x23 then (K85 0 s18) else (K85 1 s18)))
def jl_83_59 (Q : Nat)   : Nat → Int → ev_St → Option ((Int) × ev_St)
  | 0 => fun _ _ => none
  | q + 1 => jb_83_59 Q   (jl_83_59 Q   q)
theorem jbt_83_59 (d : Nat) (hd : 7 ≤ d + 1) (Q : Nat)     (K59 : Int → ev_St → Option ((Int) × ev_St)) (hK59 : ∀ (x14 : Int) (hx14 : ev_rng x14), ∀ (s18 : ev_St) (w15 : List (Nat × Value)), ev_lk w15 0 = some (.ref 3) → ev_lk w15 4 = some (.int (Int32.ofInt x14)) → ev_w none (ev_Mof 83) d 59 w15 [] s18 (K59 x14 s18) ev_eI ev_bl) : ∀ (x14 : Int) (hx14 : ev_rng x14), ∀ (s18 : ev_St) (w15 : List (Nat × Value)), ev_lk w15 0 = some (.ref 3) → ev_lk w15 4 = some (.int (Int32.ofInt x14)) → ev_w none (ev_Mof 83) d 59 w15 [] s18 (jb_83_59 Q   K59 x14 s18) ev_eI ev_bl := by
  intro x14 hx14 s18 w15 e16 e17
  unfold jb_83_59
  refine ev_r_iload (pc := 59) (k := 4) (v := Int32.ofInt x14) (by decide +kernel) (by exact e17) ?_
  refine ev_r_ldc (pc := 61) (y := 87) (k := 100000) (by decide +kernel) (by decide +kernel) ?_
  refine ev_r_icmp (pc := 63) (q := .ge) (o := 93) (t := 156) (c := 100000 ≤ x14) (by decide +kernel) (ev_k_ge hx14 (by decide)) (by decide +kernel) ?_ ?_
  · intro c19
    refine ev_r_iconst (pc := 156) (k := 0) (by decide +kernel) ?_
    exact ev_r_ireturn (pc := 157) (x := 0) (v := Int32.ofInt 0) (ty := .boolean) (by decide : ev_bl 0) (by decide +kernel) (by decide +kernel) (ev_ret_bl (by decide : ev_bl 0)) rfl
  · intro c19
    refine ev_r_aload_n (pc := 66) (k := 0) (v := .ref 3) trivial (by decide +kernel) (by exact e16) ?_
    refine ev_r_getI (pc := 67) (y := 63) (ci := 7) (f := 8) (fin := 0) (by decide +kernel) (by decide +kernel) (by exact ev_ob_3) rfl ?_
    intro x20 hx20
    refine ev_r_aload_n (pc := 70) (k := 0) (v := .ref 3) trivial (by decide +kernel) (by exact e16) ?_
    refine ev_r_getR (pc := 71) (y := 51) (ci := 7) (f := 7) (fin := 0) (t := 10) (by decide +kernel) (by decide +kernel) (by exact ev_ob_3) rfl rfl ?_
    intro r21 hr21
    have hr21 : r21 = 0 ∨ ev_isOb (r21 - 1) 10 = true := hr21
    refine ev_r_chk ?_
    intro c22
    refine ev_r_dr (r := r21) (fun v => [v, .int (Int32.ofInt x20)]) c22 ?_
    refine ev_r_getI (pc := 74) (y := 88) (ci := 10) (f := 1) (fin := 0) (by decide +kernel) (by decide +kernel) (by exact (hr21.resolve_left c22)) rfl ?_
    intro x23 hx23
    refine ev_r_jn (Q := fun K => ∀ (x24 : Int) (hx24 : ev_rng x24), ∀ (s28 : ev_St) (w25 : List (Nat × Value)), ev_lk w25 0 = some (.ref 3) → ev_lk w25 4 = some (.int (Int32.ofInt x14)) → ev_w none (ev_Mof 83) d 85 w25 [.int (Int32.ofInt x24)] s28 (K x24 s28) ev_eI ev_bl) ?_ ?_
    · intro x24 hx24 s28 w25 e26 e27
      refine ev_r_istore (pc := 85) (k := 5) (by decide +kernel) (by decide +kernel) rfl ?_
      refine ev_r_iload (pc := 87) (k := 5) (v := Int32.ofInt x24) (by decide +kernel) (by exact ev_lk_st1_self) ?_
      refine ev_r_jn (Q := fun K => ∀ (x29 : Int) (hx29 : ev_rng x29), ∀ (s34 : ev_St) (w30 : List (Nat × Value)), ev_lk w30 0 = some (.ref 3) → ev_lk w30 4 = some (.int (Int32.ofInt x14)) → ev_lk w30 5 = some (.int (Int32.ofInt x29)) → ev_w none (ev_Mof 83) d 126 w30 [] s34 (K x29 s34) ev_eI ev_bl) ?_ ?_
      · intro x29 hx29 s34 w30 e31 e32 e33
        refine ev_r_iload (pc := 126) (k := 5) (v := Int32.ofInt x29) (by decide +kernel) (by exact e33) ?_
        refine ev_r_jn (Q := fun K => ∀ (s38 : ev_St) (w35 : List (Nat × Value)), ev_lk w35 0 = some (.ref 3) → ev_lk w35 4 = some (.int (Int32.ofInt x14)) → ev_w none (ev_Mof 83) d 150 w35 [] s38 (K  s38) ev_eI ev_bl) ?_ ?_
        · intro  s38 w35 e36 e37
          refine ev_r_iinc (pc := 150) (k := 4) (c := 1) (x := x14) (by decide +kernel) (by decide +kernel) (by exact e37) (fun _ => rfl) ?_
          intro x39 hx39
          refine ev_r_goto (pc := 153) (o := (-94)) (t := 59) (by decide +kernel) (by decide +kernel) ?_
          exact hK59 x39 hx39 s38 _ (by exact (ev_l1 e36 (by decide) (by decide))) (by exact ev_lk_st1_self)
        · intro K150 hK150
          refine ev_r_if (pc := 128) (q := .eq) (o := 13) (t := 141) (c := x29 = 0) (by decide +kernel) (ev_k_eq hx29 ev_rng0) (by decide +kernel) ?_ ?_
          · intro c40
            refine ev_r_aload_n (pc := 141) (k := 0) (v := .ref 3) trivial (by decide +kernel) (by exact e31) ?_
            refine ev_r_virt (pc := 142) (y := 101) (mi := 85) (na := 0) (k := 3) (as := []) (rest := []) (encc := ev_oI) (Q := ev_bl) (fun x S1 h => jt_85 d (by omega) Q   s34 x S1 h) (by exact ev_ob_3) (by decide +kernel) (by decide +kernel) (by decide +kernel) (by decide +kernel) rfl (by (try simp only [ev_sum, ev_nv_cat]); first | done | rfl) ?_
            intro x42 s41 hx42
            replace hx42 := ev_bl_rng hx42
            show ev_w _ _ _ _ _ [.int (Int32.ofInt x42)] _ _ _ _
            refine ev_r_if (pc := 145) (q := .ne) (o := 5) (t := 150) (c := x42 ≠ 0) (by decide +kernel) (ev_k_ne hx42 ev_rng0) (by decide +kernel) ?_ ?_
            · intro c43
              exact hK150  s41 _ (by exact e31) (by exact e32)
            · intro c43
              refine ev_r_iconst (pc := 148) (k := 0) (by decide +kernel) ?_
              exact ev_r_ireturn (pc := 149) (x := 0) (v := Int32.ofInt 0) (ty := .boolean) (by decide : ev_bl 0) (by decide +kernel) (by decide +kernel) (ev_ret_bl (by decide : ev_bl 0)) rfl
          · intro c40
            refine ev_r_aload_n (pc := 131) (k := 0) (v := .ref 3) trivial (by decide +kernel) (by exact e31) ?_
            refine ev_r_virt (pc := 132) (y := 98) (mi := 112) (na := 0) (k := 3) (as := []) (rest := []) (encc := ev_oI) (Q := ev_bl) (fun x S1 h => jt_112 d (by omega) Q   s34 x S1 h) (by exact ev_ob_3) (by decide +kernel) (by decide +kernel) (by decide +kernel) (by decide +kernel) rfl (by (try simp only [ev_sum, ev_nv_cat]); first | done | rfl) ?_
            intro x45 s44 hx45
            replace hx45 := ev_bl_rng hx45
            show ev_w _ _ _ _ _ [.int (Int32.ofInt x45)] _ _ _ _
            refine ev_r_if (pc := 135) (q := .eq) (o := 13) (t := 148) (c := x45 = 0) (by decide +kernel) (ev_k_eq hx45 ev_rng0) (by decide +kernel) ?_ ?_
            · intro c46
              refine ev_r_iconst (pc := 148) (k := 0) (by decide +kernel) ?_
              exact ev_r_ireturn (pc := 149) (x := 0) (v := Int32.ofInt 0) (ty := .boolean) (by decide : ev_bl 0) (by decide +kernel) (by decide +kernel) (ev_ret_bl (by decide : ev_bl 0)) rfl
            · intro c46
              refine ev_r_goto (pc := 138) (o := 12) (t := 150) (by decide +kernel) (by decide +kernel) ?_
              exact hK150  s44 _ (by exact e31) (by exact e32)
      · intro K126 hK126
        refine ev_r_if (pc := 89) (q := .eq) (o := 37) (t := 126) (c := x24 = 0) (by decide +kernel) (ev_k_eq hx24 ev_rng0) (by decide +kernel) ?_ ?_
        · intro c47
          exact hK126 x24 hx24 s28 _ (by exact (ev_l1 e26 (by decide) (by decide))) (by exact (ev_lk_st1 e27 (by decide) rfl)) (by exact ev_lk_st1_self)
        · intro c47
          refine ev_r_aload_n (pc := 92) (k := 0) (v := .ref 3) trivial (by decide +kernel) (by exact (ev_l1 e26 (by decide) (by decide))) ?_
          refine ev_r_getI (pc := 93) (y := 66) (ci := 7) (f := 6) (fin := 0) (by decide +kernel) (by decide +kernel) (by exact ev_ob_3) rfl ?_
          intro x48 hx48
          refine ev_r_if (pc := 96) (q := .ne) (o := 30) (t := 126) (c := x48 ≠ 0) (by decide +kernel) (ev_k_ne hx48 ev_rng0) (by decide +kernel) ?_ ?_
          · intro c49
            exact hK126 x24 hx24 s28 _ (by exact (ev_l1 e26 (by decide) (by decide))) (by exact (ev_lk_st1 e27 (by decide) rfl)) (by exact ev_lk_st1_self)
          · intro c49
            refine ev_r_aload_n (pc := 99) (k := 0) (v := .ref 3) trivial (by decide +kernel) (by exact (ev_l1 e26 (by decide) (by decide))) ?_
            refine ev_r_getI (pc := 100) (y := 69) (ci := 7) (f := 10) (fin := 0) (by decide +kernel) (by decide +kernel) (by exact ev_ob_3) rfl ?_
            intro x50 hx50
            refine ev_r_if (pc := 103) (q := .ne) (o := 21) (t := 124) (c := x50 ≠ 0) (by decide +kernel) (ev_k_ne hx50 ev_rng0) (by decide +kernel) ?_ ?_
            · intro c51
              refine ev_r_iconst (pc := 124) (k := 0) (by decide +kernel) ?_
              exact ev_r_ireturn (pc := 125) (x := 0) (v := Int32.ofInt 0) (ty := .boolean) (by decide : ev_bl 0) (by decide +kernel) (by decide +kernel) (ev_ret_bl (by decide : ev_bl 0)) rfl
            · intro c51
              refine ev_r_aload_n (pc := 106) (k := 0) (v := .ref 3) trivial (by decide +kernel) (by exact (ev_l1 e26 (by decide) (by decide))) ?_
              refine ev_r_virt (pc := 107) (y := 91) (mi := 100) (na := 0) (k := 3) (as := []) (rest := []) (encc := ev_oI) (Q := ev_bl) (fun x S1 h => jt_100 d (by omega) Q   s28 x S1 h) (by exact ev_ob_3) (by decide +kernel) (by decide +kernel) (by decide +kernel) (by decide +kernel) rfl (by (try simp only [ev_sum, ev_nv_cat]); first | done | rfl) ?_
              intro x53 s52 hx53
              replace hx53 := ev_bl_rng hx53
              show ev_w _ _ _ _ _ [.int (Int32.ofInt x53)] _ _ _ _
              refine ev_r_if (pc := 110) (q := .eq) (o := 14) (t := 124) (c := x53 = 0) (by decide +kernel) (ev_k_eq hx53 ev_rng0) (by decide +kernel) ?_ ?_
              · intro c54
                refine ev_r_iconst (pc := 124) (k := 0) (by decide +kernel) ?_
                exact ev_r_ireturn (pc := 125) (x := 0) (v := Int32.ofInt 0) (ty := .boolean) (by decide : ev_bl 0) (by decide +kernel) (by decide +kernel) (ev_ret_bl (by decide : ev_bl 0)) rfl
              · intro c54
                refine ev_r_aload_n (pc := 113) (k := 0) (v := .ref 3) trivial (by decide +kernel) (by exact (ev_l1 e26 (by decide) (by decide))) ?_
                refine ev_r_virt (pc := 114) (y := 95) (mi := 113) (na := 0) (k := 3) (as := []) (rest := []) (encc := ev_oI) (Q := ev_bl) (fun x S1 h => jt_113 d (by omega) Q   s52 x S1 h) (by exact ev_ob_3) (by decide +kernel) (by decide +kernel) (by decide +kernel) (by decide +kernel) rfl (by (try simp only [ev_sum, ev_nv_cat]); first | done | rfl) ?_
                intro x56 s55 hx56
                replace hx56 := ev_bl_rng hx56
                show ev_w _ _ _ _ _ [.int (Int32.ofInt x56)] _ _ _ _
                refine ev_r_if (pc := 117) (q := .eq) (o := 7) (t := 124) (c := x56 = 0) (by decide +kernel) (ev_k_eq hx56 ev_rng0) (by decide +kernel) ?_ ?_
                · intro c57
                  refine ev_r_iconst (pc := 124) (k := 0) (by decide +kernel) ?_
                  exact ev_r_ireturn (pc := 125) (x := 0) (v := Int32.ofInt 0) (ty := .boolean) (by decide : ev_bl 0) (by decide +kernel) (by decide +kernel) (ev_ret_bl (by decide : ev_bl 0)) rfl
                · intro c57
                  refine ev_r_iconst (pc := 120) (k := 1) (by decide +kernel) ?_
                  refine ev_r_goto (pc := 121) (o := 4) (t := 125) (by decide +kernel) (by decide +kernel) ?_
                  exact ev_r_ireturn (pc := 125) (x := 1) (v := Int32.ofInt 1) (ty := .boolean) (by decide : ev_bl 1) (by decide +kernel) (by decide +kernel) (ev_ret_bl (by decide : ev_bl 1)) rfl
    · intro K85 hK85
      refine ev_r_icmp (pc := 77) (q := .lt) (o := 7) (t := 84) (c := x20 < x23) (by decide +kernel) (ev_k_lt hx20 hx23) (by decide +kernel) ?_ ?_
      · intro c58
        refine ev_r_iconst (pc := 84) (k := 0) (by decide +kernel) ?_
        exact hK85 0 (by decide) s18 _ (by exact e16) (by exact e17)
      · intro c58
        refine ev_r_iconst (pc := 80) (k := 1) (by decide +kernel) ?_
        refine ev_r_goto (pc := 81) (o := 4) (t := 85) (by decide +kernel) (by decide +kernel) ?_
        exact hK85 1 (by decide) s18 _ (by exact e16) (by exact e17)
theorem jlt_83_59 (d : Nat) (hd : 7 ≤ d + 1) (Q : Nat)     : ∀ q : Nat, ∀ (x14 : Int) (hx14 : ev_rng x14), ∀ (s18 : ev_St) (w15 : List (Nat × Value)), ev_lk w15 0 = some (.ref 3) → ev_lk w15 4 = some (.int (Int32.ofInt x14)) → ev_w none (ev_Mof 83) d 59 w15 [] s18 (jl_83_59 Q   q x14 s18) ev_eI ev_bl := by
  intro q
  induction q with
  | zero =>
    intro x14 hx14 s18 w15 e16 e17
    exact ev_w_none
  | succ q ih => exact jbt_83_59 d hd Q     _ ih
/-- MendBench$Reader.read(LMendBench$Text;LMendBench$Pattern;I)Z -/
def jm_83 (Q : Nat) (a0 : Nat) (a1 : Nat) (a2 : Int) (S : ev_St) : Option ((Int) × ev_St) := ev_b (ev_pR S 3 7 a0) fun s1 => ev_b (ev_pR s1 3 9 a1) fun s2 => ev_b (ev_pI s2 3 12 a2) fun s3 => ev_b (ev_pI s3 3 8 0) fun s4 => ev_b (ev_pI s4 3 6 0) fun s5 => ev_b (ev_pI s5 3 10 ((-1))) fun s6 => ev_b (ev_pI s6 3 11 0) fun s7 => ev_b (ev_pI s7 3 14 0) fun s8 => ev_b (s8.2.2.1 3 9) fun r9 => ev_if (r9 ≠ 0) (ev_bd (jm_57 Q ((r9 - 1)) s8) fun _ s11 => ev_bd (jm_98 Q 16 0 1 s11) fun x13 s12 => jl_83_59 Q   Q 0 s12)
theorem jt_83 (d : Nat) (hd : 7 ≤ d) (Q : Nat) (a0 : Nat) (a1 : Nat) (a2 : Int) (ha0 : a0 = 0 ∨ ev_isOb (a0 - 1) 10 = true) (ha1 : a1 = 0 ∨ ev_isOb (a1 - 1) 5 = true) (ha2 : ev_rng a2) (S : ev_St) (x : Int) (S' : ev_St) (hJ : jm_83 Q a0 a1 a2 S = some (x, S')) : ev_Ref d 83 [.ref 3, ev_nv a0, ev_nv a1, .int (Int32.ofInt a2)] S (ev_eI x) S' (ev_bl x) := by
  obtain ⟨d, rfl⟩ : ∃ e, d = e + 1 := ⟨d - 1, by omega⟩
  refine ev_ref_of (P := ev_bl) (lv := [(0, .ref 3), (1, ev_nv a0), (2, ev_nv a1), (3, .int (Int32.ofInt a2))]) (by decide +kernel) (by (try simp only [ev_sum, ev_nv_cat]); first | done | rfl) (by (try simp only [lv_args, ev_nv_cat]); first | done | rfl) ?_ x S' hJ
  unfold jm_83
  refine ev_r_aload_n (pc := 0) (k := 0) (v := .ref 3) trivial (by decide +kernel) (by rfl) ?_
  refine ev_r_aload_n (pc := 1) (k := 1) (v := ev_nv a0) (ev_isR_nv _) (by decide +kernel) (by rfl) ?_
  refine ev_r_putR (pc := 2) (y := 51) (ci := 7) (f := 7) (r := a0) (t := 10) (by exact ha0) (by decide +kernel) (by decide +kernel) (by exact ev_ob_3) rfl rfl (by cases a0 <;> rfl) ?_
  intro s1
  refine ev_r_aload_n (pc := 5) (k := 0) (v := .ref 3) trivial (by decide +kernel) (by rfl) ?_
  refine ev_r_aload_n (pc := 6) (k := 2) (v := ev_nv a1) (ev_isR_nv _) (by decide +kernel) (by rfl) ?_
  refine ev_r_putR (pc := 7) (y := 55) (ci := 7) (f := 9) (r := a1) (t := 5) (by exact ha1) (by decide +kernel) (by decide +kernel) (by exact ev_ob_3) rfl rfl (by cases a1 <;> rfl) ?_
  intro s2
  refine ev_r_aload_n (pc := 10) (k := 0) (v := .ref 3) trivial (by decide +kernel) (by rfl) ?_
  refine ev_r_iload_n (pc := 11) (k := 3) (v := Int32.ofInt a2) (by decide +kernel) (by rfl) ?_
  refine ev_r_putI (pc := 12) (y := 59) (ci := 7) (f := 12) ha2 (by decide +kernel) (by decide +kernel) (by exact ev_ob_3) rfl rfl ?_
  intro s3
  refine ev_r_aload_n (pc := 15) (k := 0) (v := .ref 3) trivial (by decide +kernel) (by rfl) ?_
  refine ev_r_iconst (pc := 16) (k := 0) (by decide +kernel) ?_
  refine ev_r_putI (pc := 17) (y := 63) (ci := 7) (f := 8) (by decide) (by decide +kernel) (by decide +kernel) (by exact ev_ob_3) rfl rfl ?_
  intro s4
  refine ev_r_aload_n (pc := 20) (k := 0) (v := .ref 3) trivial (by decide +kernel) (by rfl) ?_
  refine ev_r_iconst (pc := 21) (k := 0) (by decide +kernel) ?_
  refine ev_r_putI (pc := 22) (y := 66) (ci := 7) (f := 6) (by decide) (by decide +kernel) (by decide +kernel) (by exact ev_ob_3) rfl rfl ?_
  intro s5
  refine ev_r_aload_n (pc := 25) (k := 0) (v := .ref 3) trivial (by decide +kernel) (by rfl) ?_
  refine ev_r_iconst (pc := 26) (k := -1) (by decide +kernel) ?_
  refine ev_r_putI (pc := 27) (y := 69) (ci := 7) (f := 10) (by decide) (by decide +kernel) (by decide +kernel) (by exact ev_ob_3) rfl rfl ?_
  intro s6
  refine ev_r_aload_n (pc := 30) (k := 0) (v := .ref 3) trivial (by decide +kernel) (by rfl) ?_
  refine ev_r_iconst (pc := 31) (k := 0) (by decide +kernel) ?_
  refine ev_r_putI (pc := 32) (y := 72) (ci := 7) (f := 11) (by decide) (by decide +kernel) (by decide +kernel) (by exact ev_ob_3) rfl rfl ?_
  intro s7
  refine ev_r_aload_n (pc := 35) (k := 0) (v := .ref 3) trivial (by decide +kernel) (by rfl) ?_
  refine ev_r_iconst (pc := 36) (k := 0) (by decide +kernel) ?_
  refine ev_r_putI (pc := 37) (y := 75) (ci := 7) (f := 14) (by decide) (by decide +kernel) (by decide +kernel) (by exact ev_ob_3) rfl rfl ?_
  intro s8
  refine ev_r_aload_n (pc := 40) (k := 0) (v := .ref 3) trivial (by decide +kernel) (by rfl) ?_
  refine ev_r_getR (pc := 41) (y := 55) (ci := 7) (f := 9) (fin := 0) (t := 5) (by decide +kernel) (by decide +kernel) (by exact ev_ob_3) rfl rfl ?_
  intro r9 hr9
  have hr9 : r9 = 0 ∨ ev_isOb (r9 - 1) 5 = true := hr9
  refine ev_r_chk ?_
  intro c10
  refine ev_r_dr (r := r9) (fun v => [v]) c10 ?_
  refine ev_r_virt (pc := 44) (y := 78) (mi := 57) (na := 0) (k := (r9 - 1)) (as := []) (rest := []) (encc := ev_oU) (Q := ev_PU) (fun x S1 h => jt_57 d (by omega) Q ((r9 - 1)) (hr9.resolve_left c10) s8 x S1 h) (by exact (hr9.resolve_left c10)) (by decide +kernel) (by decide +kernel) (by decide +kernel) (by decide +kernel) rfl (by (try simp only [ev_sum, ev_nv_cat]); first | done | rfl) ?_
  intro _ s11 _
  show ev_w _ _ _ _ _ [] _ _ _ _
  refine ev_r_aload_n (pc := 47) (k := 0) (v := .ref 3) trivial (by decide +kernel) (by rfl) ?_
  refine ev_r_bipush (pc := 48) (k := 16) (by decide +kernel) (by decide +kernel) ?_
  refine ev_r_iconst (pc := 50) (k := 0) (by decide +kernel) ?_
  refine ev_r_iconst (pc := 51) (k := 1) (by decide +kernel) ?_
  refine ev_r_virt (pc := 52) (y := 83) (mi := 98) (na := 3) (k := 3) (as := [.int (Int32.ofInt 16), .int (Int32.ofInt 0), .int (Int32.ofInt 1)]) (rest := []) (encc := ev_oI) (Q := ev_bl) (fun x S1 h => jt_98 d (by omega) Q 16 0 1 (by decide) (by decide) (by decide) s11 x S1 h) (by exact ev_ob_3) (by decide +kernel) (by decide +kernel) (by decide +kernel) (by decide +kernel) rfl (by (try simp only [ev_sum, ev_nv_cat]); first | done | rfl) ?_
  intro x13 s12 hx13
  replace hx13 := ev_bl_rng hx13
  show ev_w _ _ _ _ _ [.int (Int32.ofInt x13)] _ _ _ _
  refine ev_r_pop (pc := 55) rfl (by decide +kernel) ?_
  refine ev_r_iconst (pc := 56) (k := 0) (by decide +kernel) ?_
  refine ev_r_istore (pc := 57) (k := 4) (by decide +kernel) (by decide +kernel) rfl ?_
  exact jlt_83_59 d hd Q     Q 0 (by decide) s12 _ (by exact (ev_l1 (by rfl) (by decide) (by decide))) (by exact ev_lk_st1_self)
def jb_116_9 (Q : Nat)   (K9 : Int → ev_St → Option ((Int) × ev_St)) (x2 : Int) (s6 : ev_St) : Option ((Int) × ev_St) := if x2 < 0 then (some ((-1), s6)) else (ev_bd (jm_122 Q x2 s6) fun x9 s8 => ev_b (s8.1 281 10) fun x10 => if x10 = 0 then (if x9 ≠ 1 then (if x9 ≠ 3 then (ev_ck (x2 + (-1)) fun x14 => K9 x14 s8) else (some ((-1), s8))) else (ev_b (s8.1 281 11) fun x15 => ev_ck (1000 * x15) fun x16 => ev_b (s8.1 281 12) fun x17 => ev_ck (x16 + x17) fun x18 => some (x18, s8))) else (some ((-2), s8)))
def jl_116_9 (Q : Nat)   : Nat → Int → ev_St → Option ((Int) × ev_St)
  | 0 => fun _ _ => none
  | q + 1 => jb_116_9 Q   (jl_116_9 Q   q)
theorem jbt_116_9 (d : Nat) (hd : 6 ≤ d + 1) (Q : Nat)     (K9 : Int → ev_St → Option ((Int) × ev_St)) (hK9 : ∀ (x2 : Int) (hx2 : ev_rng x2), ∀ (s6 : ev_St) (w3 : List (Nat × Value)), ev_lk w3 0 = some (.ref 281) → ev_lk w3 4 = some (.int (Int32.ofInt x2)) → ev_w none (ev_Mof 116) d 9 w3 [] s6 (K9 x2 s6) ev_eI ev_rng) : ∀ (x2 : Int) (hx2 : ev_rng x2), ∀ (s6 : ev_St) (w3 : List (Nat × Value)), ev_lk w3 0 = some (.ref 281) → ev_lk w3 4 = some (.int (Int32.ofInt x2)) → ev_w none (ev_Mof 116) d 9 w3 [] s6 (jb_116_9 Q   K9 x2 s6) ev_eI ev_rng := by
  intro x2 hx2 s6 w3 e4 e5
  unfold jb_116_9
  refine ev_r_iload (pc := 9) (k := 4) (v := Int32.ofInt x2) (by decide +kernel) (by exact e5) ?_
  refine ev_r_if (pc := 11) (q := .lt) (o := 55) (t := 66) (c := x2 < 0) (by decide +kernel) (ev_k_lt hx2 ev_rng0) (by decide +kernel) ?_ ?_
  · intro c7
    refine ev_r_iconst (pc := 66) (k := -1) (by decide +kernel) ?_
    exact ev_r_ireturn (pc := 67) (x := (-1)) (v := Int32.ofInt ((-1))) (ty := .int) (by decide) (by decide +kernel) (by decide +kernel) rfl rfl
  · intro c7
    refine ev_r_aload_n (pc := 14) (k := 0) (v := .ref 281) trivial (by decide +kernel) (by exact e4) ?_
    refine ev_r_iload (pc := 15) (k := 4) (v := Int32.ofInt x2) (by decide +kernel) (by exact e5) ?_
    refine ev_r_virt (pc := 17) (y := 35) (mi := 122) (na := 1) (k := 281) (as := [.int (Int32.ofInt x2)]) (rest := []) (encc := ev_oI) (Q := ev_rng) (fun x S1 h => jt_122 d (by omega) Q x2 hx2 s6 x S1 h) (by exact ev_ob_281) (by decide +kernel) (by decide +kernel) (by decide +kernel) (by decide +kernel) rfl (by (try simp only [ev_sum, ev_nv_cat]); first | done | rfl) ?_
    intro x9 s8 hx9
    show ev_w _ _ _ _ _ [.int (Int32.ofInt x9)] _ _ _ _
    refine ev_r_istore (pc := 20) (k := 5) (by decide +kernel) (by decide +kernel) rfl ?_
    refine ev_r_aload_n (pc := 22) (k := 0) (v := .ref 281) trivial (by decide +kernel) (by exact (ev_l1 e4 (by decide) (by decide))) ?_
    refine ev_r_getI (pc := 23) (y := 39) (ci := 8) (f := 10) (fin := 0) (by decide +kernel) (by decide +kernel) (by exact ev_ob_281) rfl ?_
    intro x10 hx10
    refine ev_r_if (pc := 26) (q := .eq) (o := 6) (t := 32) (c := x10 = 0) (by decide +kernel) (ev_k_eq hx10 ev_rng0) (by decide +kernel) ?_ ?_
    · intro c11
      refine ev_r_iload (pc := 32) (k := 5) (v := Int32.ofInt x9) (by decide +kernel) (by exact ev_lk_st1_self) ?_
      refine ev_r_iconst (pc := 34) (k := 1) (by decide +kernel) ?_
      refine ev_r_icmp (pc := 35) (q := .ne) (o := 17) (t := 52) (c := x9 ≠ 1) (by decide +kernel) (ev_k_ne hx9 (by decide)) (by decide +kernel) ?_ ?_
      · intro c12
        refine ev_r_iload (pc := 52) (k := 5) (v := Int32.ofInt x9) (by decide +kernel) (by exact ev_lk_st1_self) ?_
        refine ev_r_iconst (pc := 54) (k := 3) (by decide +kernel) ?_
        refine ev_r_icmp (pc := 55) (q := .ne) (o := 5) (t := 60) (c := x9 ≠ 3) (by decide +kernel) (ev_k_ne hx9 (by decide)) (by decide +kernel) ?_ ?_
        · intro c13
          refine ev_r_iinc (pc := 60) (k := 4) (c := -1) (x := x2) (by decide +kernel) (by decide +kernel) (by exact (ev_lk_st1 e5 (by decide) rfl)) (fun _ => rfl) ?_
          intro x14 hx14
          refine ev_r_goto (pc := 63) (o := (-54)) (t := 9) (by decide +kernel) (by decide +kernel) ?_
          exact hK9 x14 hx14 s8 _ (by exact (ev_l1 (ev_l1 e4 (by decide) (by decide)) (by decide) (by decide))) (by exact ev_lk_st1_self)
        · intro c13
          refine ev_r_iconst (pc := 58) (k := -1) (by decide +kernel) ?_
          exact ev_r_ireturn (pc := 59) (x := (-1)) (v := Int32.ofInt ((-1))) (ty := .int) (by decide) (by decide +kernel) (by decide +kernel) rfl rfl
      · intro c12
        refine ev_r_sipush (pc := 38) (k := 1000) (by decide +kernel) (by decide +kernel) ?_
        refine ev_r_aload_n (pc := 41) (k := 0) (v := .ref 281) trivial (by decide +kernel) (by exact (ev_l1 e4 (by decide) (by decide))) ?_
        refine ev_r_getI (pc := 42) (y := 43) (ci := 8) (f := 11) (fin := 0) (by decide +kernel) (by decide +kernel) (by exact ev_ob_281) rfl ?_
        intro x15 hx15
        refine ev_r_imul (pc := 45) (by decide +kernel) ?_
        intro x16 hx16
        refine ev_r_aload_n (pc := 46) (k := 0) (v := .ref 281) trivial (by decide +kernel) (by exact (ev_l1 e4 (by decide) (by decide))) ?_
        refine ev_r_getI (pc := 47) (y := 46) (ci := 8) (f := 12) (fin := 0) (by decide +kernel) (by decide +kernel) (by exact ev_ob_281) rfl ?_
        intro x17 hx17
        refine ev_r_iadd (pc := 50) (by decide +kernel) ?_
        intro x18 hx18
        exact ev_r_ireturn (pc := 51) (x := x18) (v := Int32.ofInt x18) (ty := .int) hx18 (by decide +kernel) (by decide +kernel) rfl rfl
    · intro c11
      refine ev_r_bipush (pc := 29) (k := -2) (by decide +kernel) (by decide +kernel) ?_
      exact ev_r_ireturn (pc := 31) (x := (-2)) (v := Int32.ofInt ((-2))) (ty := .int) (by decide) (by decide +kernel) (by decide +kernel) rfl rfl
theorem jlt_116_9 (d : Nat) (hd : 6 ≤ d + 1) (Q : Nat)     : ∀ q : Nat, ∀ (x2 : Int) (hx2 : ev_rng x2), ∀ (s6 : ev_St) (w3 : List (Nat × Value)), ev_lk w3 0 = some (.ref 281) → ev_lk w3 4 = some (.int (Int32.ofInt x2)) → ev_w none (ev_Mof 116) d 9 w3 [] s6 (jl_116_9 Q   q x2 s6) ev_eI ev_rng := by
  intro q
  induction q with
  | zero =>
    intro x2 hx2 s6 w3 e4 e5
    exact ev_w_none
  | succ q ih => exact jbt_116_9 d hd Q     _ ih
/-- MendBench$Search.backwards(LMendBench$Pattern;LMendBench$Text;I)I -/
def jm_116 (Q : Nat) (a0 : Nat) (a1 : Nat) (a2 : Int) (S : ev_St) : Option ((Int) × ev_St) := ev_bd (jm_121 Q a0 a1 S) fun _ s1 => jl_116_9 Q   Q a2 s1
theorem jt_116 (d : Nat) (hd : 6 ≤ d) (Q : Nat) (a0 : Nat) (a1 : Nat) (a2 : Int) (ha0 : a0 = 0 ∨ ev_isOb (a0 - 1) 5 = true) (ha1 : a1 = 0 ∨ ev_isOb (a1 - 1) 10 = true) (ha2 : ev_rng a2) (S : ev_St) (x : Int) (S' : ev_St) (hJ : jm_116 Q a0 a1 a2 S = some (x, S')) : ev_Ref d 116 [.ref 281, ev_nv a0, ev_nv a1, .int (Int32.ofInt a2)] S (ev_eI x) S' (ev_rng x) := by
  obtain ⟨d, rfl⟩ : ∃ e, d = e + 1 := ⟨d - 1, by omega⟩
  refine ev_ref_of (P := ev_rng) (lv := [(0, .ref 281), (1, ev_nv a0), (2, ev_nv a1), (3, .int (Int32.ofInt a2))]) (by decide +kernel) (by (try simp only [ev_sum, ev_nv_cat]); first | done | rfl) (by (try simp only [lv_args, ev_nv_cat]); first | done | rfl) ?_ x S' hJ
  unfold jm_116
  refine ev_r_aload_n (pc := 0) (k := 0) (v := .ref 281) trivial (by decide +kernel) (by rfl) ?_
  refine ev_r_aload_n (pc := 1) (k := 1) (v := ev_nv a0) (ev_isR_nv _) (by decide +kernel) (by rfl) ?_
  refine ev_r_aload_n (pc := 2) (k := 2) (v := ev_nv a1) (ev_isR_nv _) (by decide +kernel) (by rfl) ?_
  refine ev_r_virt (pc := 3) (y := 21) (mi := 121) (na := 2) (k := 281) (as := [ev_nv a0, ev_nv a1]) (rest := []) (encc := ev_oU) (Q := ev_PU) (fun x S1 h => jt_121 d (by omega) Q a0 a1 (by exact ha0) (by exact ha1) S x S1 h) (by exact ev_ob_281) (by decide +kernel) (by decide +kernel) (by decide +kernel) (by decide +kernel) rfl (by (try simp only [ev_sum, ev_nv_cat]); first | done | rfl) ?_
  intro _ s1 _
  show ev_w _ _ _ _ _ [] _ _ _ _
  refine ev_r_iload_n (pc := 6) (k := 3) (v := Int32.ofInt a2) (by decide +kernel) (by rfl) ?_
  refine ev_r_istore (pc := 7) (k := 4) (by decide +kernel) (by decide +kernel) rfl ?_
  exact jlt_116_9 d hd Q     Q a2 ha2 s1 _ (by exact (ev_l1 (by rfl) (by decide) (by decide))) (by exact ev_lk_st1_self)
/-- MendBench$Threads.begin(LMendBench$Program;)V -/
def jm_158 (Q : Nat) (k : Nat) (a0 : Nat) (S : ev_St) : Option ((Unit) × ev_St) := ev_b (ev_pR S k 11 a0) fun s1 => ev_b (ev_pI s1 k 15 0) fun s2 => ev_b (ev_pI s2 k 14 0) fun s3 => ev_b (s3.1 k 7) fun x4 => ev_ck (x4 + 1) fun x5 => ev_b (ev_pI s3 k 7 x5) fun s6 => some ((), s6)
theorem jt_158 (d : Nat) (hd : 1 ≤ d) (Q : Nat) (k : Nat) (a0 : Nat) (hk : ev_isOb k 11 = true) (ha0 : a0 = 0 ∨ ev_isOb (a0 - 1) 6 = true) (S : ev_St) (x : Unit) (S' : ev_St) (hJ : jm_158 Q k a0 S = some (x, S')) : ev_Ref d 158 [.ref k, ev_nv a0] S (ev_eU x) S' (ev_PU x) := by
  obtain ⟨d, rfl⟩ : ∃ e, d = e + 1 := ⟨d - 1, by omega⟩
  refine ev_ref_of (P := ev_PU) (lv := [(0, .ref k), (1, ev_nv a0)]) (by decide +kernel) (by (try simp only [ev_sum, ev_nv_cat]); first | done | rfl) (by (try simp only [lv_args, ev_nv_cat]); first | done | rfl) ?_ x S' hJ
  unfold jm_158
  refine ev_r_aload_n (pc := 0) (k := 0) (v := .ref k) trivial (by decide +kernel) (by rfl) ?_
  refine ev_r_aload_n (pc := 1) (k := 1) (v := ev_nv a0) (ev_isR_nv _) (by decide +kernel) (by rfl) ?_
  refine ev_r_putR (pc := 2) (y := 67) (ci := 11) (f := 11) (r := a0) (t := 6) (by exact ha0) (by decide +kernel) (by decide +kernel) (by exact hk) rfl rfl (by cases a0 <;> rfl) ?_
  intro s1
  refine ev_r_aload_n (pc := 5) (k := 0) (v := .ref k) trivial (by decide +kernel) (by rfl) ?_
  refine ev_r_iconst (pc := 6) (k := 0) (by decide +kernel) ?_
  refine ev_r_putI (pc := 7) (y := 62) (ci := 11) (f := 15) (by decide) (by decide +kernel) (by decide +kernel) (by exact hk) rfl rfl ?_
  intro s2
  refine ev_r_aload_n (pc := 10) (k := 0) (v := .ref k) trivial (by decide +kernel) (by rfl) ?_
  refine ev_r_iconst (pc := 11) (k := 0) (by decide +kernel) ?_
  refine ev_r_putI (pc := 12) (y := 58) (ci := 11) (f := 14) (by decide) (by decide +kernel) (by decide +kernel) (by exact hk) rfl (ev_fit_bl (by decide : ev_bl 0)) ?_
  intro s3
  refine ev_r_aload_n (pc := 15) (k := 0) (v := .ref k) trivial (by decide +kernel) (by rfl) ?_
  refine ev_r_dup (pc := 16) rfl (by decide +kernel) ?_
  refine ev_r_getI (pc := 17) (y := 71) (ci := 11) (f := 7) (fin := 0) (by decide +kernel) (by decide +kernel) (by exact hk) rfl ?_
  intro x4 hx4
  refine ev_r_iconst (pc := 20) (k := 1) (by decide +kernel) ?_
  refine ev_r_iadd (pc := 21) (by decide +kernel) ?_
  intro x5 hx5
  refine ev_r_putI (pc := 22) (y := 71) (ci := 11) (f := 7) hx5 (by decide +kernel) (by decide +kernel) (by exact hk) rfl rfl ?_
  intro s6
  exact ev_r_return (pc := 25) (x := ()) trivial (by decide +kernel) (by decide +kernel) rfl
/-- MendBench$Threads.push(II)V -/
def jm_164 (Q : Nat) (k : Nat) (a0 : Int) (a1 : Int) (S : ev_St) : Option ((Unit) × ev_St) := ev_b (S.1 k 10) fun x1 => if x1 < 0 then (some ((), S)) else (ev_b (S.1 k 10) fun x3 => ev_b (ev_aln ((k + 4)) : Int) fun x4 => if x4 ≤ x3 then (some ((), S)) else (ev_b (S.1 k 10) fun x6 => ev_b (ev_aln ((k + 5)) : Int) fun x7 => if x7 ≤ x6 then (some ((), S)) else (ev_b (S.1 k 10) fun x9 => ev_if ((0 : Int) ≤ x9 ∧ x9 < (ev_aln ((k + 4)) : Int)) (ev_b (ev_pI S ((k + 4)) (Int.toNat x9) a0) fun s10 => ev_b (s10.1 k 10) fun x11 => ev_if ((0 : Int) ≤ x11 ∧ x11 < (ev_aln ((k + 5)) : Int)) (ev_b (ev_pI s10 ((k + 5)) (Int.toNat x11) a1) fun s12 => ev_b (s12.1 k 10) fun x13 => ev_ck (x13 + 1) fun x14 => ev_b (ev_pI s12 k 10 x14) fun s15 => some ((), s15))))))
theorem jt_164 (d : Nat) (hd : 1 ≤ d) (Q : Nat) (k : Nat) (a0 : Int) (a1 : Int) (hk : ev_isOb k 11 = true) (ha0 : ev_rng a0) (ha1 : ev_rng a1) (S : ev_St) (x : Unit) (S' : ev_St) (hJ : jm_164 Q k a0 a1 S = some (x, S')) : ev_Ref d 164 [.ref k, .int (Int32.ofInt a0), .int (Int32.ofInt a1)] S (ev_eU x) S' (ev_PU x) := by
  obtain ⟨d, rfl⟩ : ∃ e, d = e + 1 := ⟨d - 1, by omega⟩
  refine ev_ref_of (P := ev_PU) (lv := [(0, .ref k), (1, .int (Int32.ofInt a0)), (2, .int (Int32.ofInt a1))]) (by decide +kernel) (by (try simp only [ev_sum, ev_nv_cat]); first | done | rfl) (by (try simp only [lv_args, ev_nv_cat]); first | done | rfl) ?_ x S' hJ
  unfold jm_164
  refine ev_r_aload_n (pc := 0) (k := 0) (v := .ref k) trivial (by decide +kernel) (by rfl) ?_
  refine ev_r_getI (pc := 1) (y := 115) (ci := 11) (f := 10) (fin := 0) (by decide +kernel) (by decide +kernel) (by exact hk) rfl ?_
  intro x1 hx1
  refine ev_r_if (pc := 4) (q := .lt) (o := 57) (t := 61) (c := x1 < 0) (by decide +kernel) (ev_k_lt hx1 ev_rng0) (by decide +kernel) ?_ ?_
  · intro c2
    exact ev_r_return (pc := 61) (x := ()) trivial (by decide +kernel) (by decide +kernel) rfl
  · intro c2
    refine ev_r_aload_n (pc := 7) (k := 0) (v := .ref k) trivial (by decide +kernel) (by rfl) ?_
    refine ev_r_getI (pc := 8) (y := 115) (ci := 11) (f := 10) (fin := 0) (by decide +kernel) (by decide +kernel) (by exact hk) rfl ?_
    intro x3 hx3
    refine ev_r_aload_n (pc := 11) (k := 0) (v := .ref k) trivial (by decide +kernel) (by rfl) ?_
    refine ev_r_getC (pc := 12) (y := 23) (ci := 11) (f := 8) (fin := 1) (k' := (k + 4)) (by decide +kernel) (by decide +kernel) (by exact hk) rfl rfl ?_
    refine ev_r_alen (pc := 15) (kd := 1) (ty := .int) (Or.inl rfl) (by decide +kernel) (by exact (ev_fo_11_8 hk)) ?_
    intro x4 hx4
    refine ev_r_icmp (pc := 16) (q := .ge) (o := 45) (t := 61) (c := x4 ≤ x3) (by decide +kernel) (ev_k_ge hx3 hx4) (by decide +kernel) ?_ ?_
    · intro c5
      exact ev_r_return (pc := 61) (x := ()) trivial (by decide +kernel) (by decide +kernel) rfl
    · intro c5
      refine ev_r_aload_n (pc := 19) (k := 0) (v := .ref k) trivial (by decide +kernel) (by rfl) ?_
      refine ev_r_getI (pc := 20) (y := 115) (ci := 11) (f := 10) (fin := 0) (by decide +kernel) (by decide +kernel) (by exact hk) rfl ?_
      intro x6 hx6
      refine ev_r_aload_n (pc := 23) (k := 0) (v := .ref k) trivial (by decide +kernel) (by rfl) ?_
      refine ev_r_getC (pc := 24) (y := 26) (ci := 11) (f := 9) (fin := 1) (k' := (k + 5)) (by decide +kernel) (by decide +kernel) (by exact hk) rfl rfl ?_
      refine ev_r_alen (pc := 27) (kd := 1) (ty := .int) (Or.inl rfl) (by decide +kernel) (by exact (ev_fo_11_9 hk)) ?_
      intro x7 hx7
      refine ev_r_icmp (pc := 28) (q := .ge) (o := 33) (t := 61) (c := x7 ≤ x6) (by decide +kernel) (ev_k_ge hx6 hx7) (by decide +kernel) ?_ ?_
      · intro c8
        exact ev_r_return (pc := 61) (x := ()) trivial (by decide +kernel) (by decide +kernel) rfl
      · intro c8
        refine ev_r_aload_n (pc := 31) (k := 0) (v := .ref k) trivial (by decide +kernel) (by rfl) ?_
        refine ev_r_getC (pc := 32) (y := 23) (ci := 11) (f := 8) (fin := 1) (k' := (k + 4)) (by decide +kernel) (by decide +kernel) (by exact hk) rfl rfl ?_
        refine ev_r_aload_n (pc := 35) (k := 0) (v := .ref k) trivial (by decide +kernel) (by rfl) ?_
        refine ev_r_getI (pc := 36) (y := 115) (ci := 11) (f := 10) (fin := 0) (by decide +kernel) (by decide +kernel) (by exact hk) rfl ?_
        intro x9 hx9
        refine ev_r_iload_n (pc := 39) (k := 1) (v := Int32.ofInt a0) (by decide +kernel) (by rfl) ?_
        refine ev_r_iast (pc := 40) ha0 hx9 (by decide +kernel) (by exact (ev_fo_11_8 hk)) ?_
        intro s10
        refine ev_r_aload_n (pc := 41) (k := 0) (v := .ref k) trivial (by decide +kernel) (by rfl) ?_
        refine ev_r_getC (pc := 42) (y := 26) (ci := 11) (f := 9) (fin := 1) (k' := (k + 5)) (by decide +kernel) (by decide +kernel) (by exact hk) rfl rfl ?_
        refine ev_r_aload_n (pc := 45) (k := 0) (v := .ref k) trivial (by decide +kernel) (by rfl) ?_
        refine ev_r_getI (pc := 46) (y := 115) (ci := 11) (f := 10) (fin := 0) (by decide +kernel) (by decide +kernel) (by exact hk) rfl ?_
        intro x11 hx11
        refine ev_r_iload_n (pc := 49) (k := 2) (v := Int32.ofInt a1) (by decide +kernel) (by rfl) ?_
        refine ev_r_iast (pc := 50) ha1 hx11 (by decide +kernel) (by exact (ev_fo_11_9 hk)) ?_
        intro s12
        refine ev_r_aload_n (pc := 51) (k := 0) (v := .ref k) trivial (by decide +kernel) (by rfl) ?_
        refine ev_r_dup (pc := 52) rfl (by decide +kernel) ?_
        refine ev_r_getI (pc := 53) (y := 115) (ci := 11) (f := 10) (fin := 0) (by decide +kernel) (by decide +kernel) (by exact hk) rfl ?_
        intro x13 hx13
        refine ev_r_iconst (pc := 56) (k := 1) (by decide +kernel) ?_
        refine ev_r_iadd (pc := 57) (by decide +kernel) ?_
        intro x14 hx14
        refine ev_r_putI (pc := 58) (y := 115) (ci := 11) (f := 10) hx14 (by decide +kernel) (by decide +kernel) (by exact hk) rfl rfl ?_
        intro s15
        exact ev_r_return (pc := 61) (x := ()) trivial (by decide +kernel) (by decide +kernel) rfl
/-- MendBench$Threads.follow(ILMendBench$Text;I)V -/
def jm_163 (Q : Nat) (k : Nat) (a0 : Int) (a1 : Nat) (a2 : Int) (S : ev_St) : Option ((Unit) × ev_St) := ev_b (S.2.2.1 k 11) fun r1 => ev_if (r1 ≠ 0) (ev_if ((0 : Int) ≤ a0 ∧ a0 < (ev_aln (((r1 - 1) + 2)) : Int)) (ev_b (S.1 (((r1 - 1) + 2)) (Int.toNat a0)) fun x3 => ev_b (S.2.2.1 k 11) fun r4 => ev_if (r4 ≠ 0) (ev_if ((0 : Int) ≤ a0 ∧ a0 < (ev_aln (((r4 - 1) + 1)) : Int)) (ev_b (S.1 (((r4 - 1) + 1)) (Int.toNat a0)) fun x6 => if x6 = 1 then (ev_if (a1 ≠ 0) (ev_bd (jm_155 Q ((a1 - 1)) x3 a2 S) fun x10 s9 => if x10 = 0 then (some ((), s9)) else (ev_ck (a0 + 1) fun x12 => ev_bd (jm_164 Q k x12 0 s9) fun _ s13 => some ((), s13)))) else (if x6 = 2 then (ev_ck (a0 + x3) fun x15 => ev_bd (jm_164 Q k x15 0 S) fun _ s16 => some ((), s16)) else (if x6 = 3 then (ev_ck (a0 + x3) fun x18 => ev_bd (jm_164 Q k x18 0 S) fun _ s19 => ev_ck (a0 + 1) fun x20 => ev_bd (jm_164 Q k x20 0 s19) fun _ s21 => some ((), s21)) else (if x6 = 4 then (ev_ck (a0 + 1) fun x23 => ev_bd (jm_164 Q k x23 0 S) fun _ s24 => ev_ck (a0 + x3) fun x25 => ev_bd (jm_164 Q k x25 0 s24) fun _ s26 => some ((), s26)) else (if x6 = 5 then (ev_jn (fun  (s31 : ev_St) => ev_ck (a0 + 1) fun x32 => ev_bd (jm_164 Q k x32 0 s31) fun _ s33 => some ((), s33)) fun K146 => if x3 < 0 then (K146  S) else (ev_b (S.1 k 0) fun x35 => if x35 ≤ x3 then (K146  S) else (ev_ck (-x3) fun x37 => ev_ck (x37 - 1) fun x38 => ev_if ((0 : Int) ≤ x3 ∧ x3 < (ev_aln ((k + 6)) : Int)) (ev_b (S.1 ((k + 6)) (Int.toNat x3)) fun x39 => ev_bd (jm_164 Q k x38 x39 S) fun _ s40 => ev_if ((0 : Int) ≤ x3 ∧ x3 < (ev_aln ((k + 6)) : Int)) (ev_b (ev_pI s40 ((k + 6)) (Int.toNat x3) a2) fun s41 => K146  s41))))) else (ev_b (S.2.2.1 k 11) fun r42 => ev_if (r42 ≠ 0) (ev_if ((0 : Int) ≤ a0 ∧ a0 < (ev_aln (((r42 - 1) + 5)) : Int)) (ev_b (S.1 (((r42 - 1) + 5)) (Int.toNat a0)) fun x44 => if x44 = 0 then (some ((), S)) else (ev_b (S.1 k 15) fun x46 => if x46 < 0 then (some ((), S)) else (ev_b (S.1 k 15) fun x48 => if 208 ≤ x48 then (some ((), S)) else (ev_b (S.2.2.1 k 2) fun r50 => ev_b (S.1 k 15) fun x51 => ev_if (r50 ≠ 0) (ev_if ((0 : Int) ≤ x51 ∧ x51 < (ev_aln ((r50 - 1)) : Int)) (ev_b (ev_pI S ((r50 - 1)) (Int.toNat x51) a0) fun s53 => ev_b (s53.2.2.1 k 4) fun r54 => ev_b (s53.1 k 0) fun x55 => ev_b (s53.1 k 15) fun x56 => ev_ck (x55 * x56) fun x57 => ev_b (s53.1 k 0) fun x58 => ev_if (r54 ≠ 0) (ev_if ((0 : Int) ≤ 0 ∧ (0 : Int) ≤ x57 ∧ (0 : Int) ≤ x58 ∧ 0 + x58 ≤ (ev_aln ((k + 6)) : Int) ∧ x57 + x58 ≤ (ev_aln ((r54 - 1)) : Int)) (ev_b (ev_cpI s53 ((k + 6)) ((r54 - 1)) (Int.toNat 0) (Int.toNat x57) (Int.toNat x58)) fun s59 => ev_b (s59.1 k 15) fun x61 => ev_ck (x61 + 1) fun x62 => ev_b (ev_pI s59 k 15 x62) fun s63 => some ((), s63)))))))))))))))))))
theorem jt_163 (d : Nat) (hd : 3 ≤ d) (Q : Nat) (k : Nat) (a0 : Int) (a1 : Nat) (a2 : Int) (hk : ev_isOb k 11 = true) (ha0 : ev_rng a0) (ha1 : a1 = 0 ∨ ev_isOb (a1 - 1) 10 = true) (ha2 : ev_rng a2) (S : ev_St) (x : Unit) (S' : ev_St) (hJ : jm_163 Q k a0 a1 a2 S = some (x, S')) : ev_Ref d 163 [.ref k, .int (Int32.ofInt a0), ev_nv a1, .int (Int32.ofInt a2)] S (ev_eU x) S' (ev_PU x) := by
  obtain ⟨d, rfl⟩ : ∃ e, d = e + 1 := ⟨d - 1, by omega⟩
  refine ev_ref_of (P := ev_PU) (lv := [(0, .ref k), (1, .int (Int32.ofInt a0)), (2, ev_nv a1), (3, .int (Int32.ofInt a2))]) (by decide +kernel) (by (try simp only [ev_sum, ev_nv_cat]); first | done | rfl) (by (try simp only [lv_args, ev_nv_cat]); first | done | rfl) ?_ x S' hJ
  unfold jm_163
  refine ev_r_aload_n (pc := 0) (k := 0) (v := .ref k) trivial (by decide +kernel) (by rfl) ?_
  refine ev_r_getR (pc := 1) (y := 67) (ci := 11) (f := 11) (fin := 0) (t := 6) (by decide +kernel) (by decide +kernel) (by exact hk) rfl rfl ?_
  intro r1 hr1
  have hr1 : r1 = 0 ∨ ev_isOb (r1 - 1) 6 = true := hr1
  refine ev_r_chk ?_
  intro c2
  refine ev_r_dr (r := r1) (fun v => [v]) c2 ?_
  refine ev_r_getC (pc := 4) (y := 125) (ci := 6) (f := 1) (fin := 2) (k' := ((r1 - 1) + 2)) (by decide +kernel) (by decide +kernel) (by exact (hr1.resolve_left c2)) rfl rfl ?_
  refine ev_r_iload_n (pc := 7) (k := 1) (v := Int32.ofInt a0) (by decide +kernel) (by rfl) ?_
  refine ev_r_iald (pc := 8) ha0 (by decide +kernel) (by exact (ev_fo_6_1 (hr1.resolve_left c2))) ?_
  intro x3 hx3
  refine ev_r_istore (pc := 9) (k := 4) (by decide +kernel) (by decide +kernel) rfl ?_
  refine ev_r_aload_n (pc := 11) (k := 0) (v := .ref k) trivial (by decide +kernel) (by exact (ev_l1 (by rfl) (by decide) (by decide))) ?_
  refine ev_r_getR (pc := 12) (y := 67) (ci := 11) (f := 11) (fin := 0) (t := 6) (by decide +kernel) (by decide +kernel) (by exact hk) rfl rfl ?_
  intro r4 hr4
  have hr4 : r4 = 0 ∨ ev_isOb (r4 - 1) 6 = true := hr4
  refine ev_r_chk ?_
  intro c5
  refine ev_r_dr (r := r4) (fun v => [v]) c5 ?_
  refine ev_r_getC (pc := 15) (y := 91) (ci := 6) (f := 0) (fin := 2) (k' := ((r4 - 1) + 1)) (by decide +kernel) (by decide +kernel) (by exact (hr4.resolve_left c5)) rfl rfl ?_
  refine ev_r_iload_n (pc := 18) (k := 1) (v := Int32.ofInt a0) (by decide +kernel) (by exact (ev_l1 (by rfl) (by decide) (by decide))) ?_
  refine ev_r_iald (pc := 19) ha0 (by decide +kernel) (by exact (ev_fo_6_0 (hr4.resolve_left c5))) ?_
  intro x6 hx6
  refine ev_r_ite ?_ ?_
  · intro c7
    refine ev_r_sw (pc := 20) (i := (.tableswitch 158 1 5 #[137, 36, 48, 68, 88])) (len := 36) (pc' := 157) (by decide +kernel) (by rw [c7]; rw [ev_pure_tsw]; exact ev_tsw_c (o := 137) (by decide) (by decide) rfl (by decide +kernel)) ?_
    refine ev_r_aload_n (pc := 157) (k := 2) (v := ev_nv a1) (ev_isR_nv _) (by decide +kernel) (by exact (ev_l1 (by rfl) (by decide) (by decide))) ?_
    refine ev_r_iload (pc := 158) (k := 4) (v := Int32.ofInt x3) (by decide +kernel) (by exact ev_lk_st1_self) ?_
    refine ev_r_iload_n (pc := 160) (k := 3) (v := Int32.ofInt a2) (by decide +kernel) (by exact (ev_lk_st1 (by rfl) (by decide) rfl)) ?_
    refine ev_r_chk ?_
    intro c8
    refine ev_r_dr (r := a1) (fun v => [.int (Int32.ofInt a2), .int (Int32.ofInt x3), v]) c8 ?_
    refine ev_r_virt (pc := 161) (y := 128) (mi := 155) (na := 2) (k := (a1 - 1)) (as := [.int (Int32.ofInt x3), .int (Int32.ofInt a2)]) (rest := []) (encc := ev_oI) (Q := ev_bl) (fun x S1 h => jt_155 d (by omega) Q ((a1 - 1)) x3 a2 (ha1.resolve_left c8) hx3 ha2 S x S1 h) (by exact (ha1.resolve_left c8)) (by decide +kernel) (by decide +kernel) (by decide +kernel) (by decide +kernel) rfl (by (try simp only [ev_sum, ev_nv_cat]); first | done | rfl) ?_
    intro x10 s9 hx10
    replace hx10 := ev_bl_rng hx10
    show ev_w _ _ _ _ _ [.int (Int32.ofInt x10)] _ _ _ _
    refine ev_r_if (pc := 164) (q := .eq) (o := 88) (t := 252) (c := x10 = 0) (by decide +kernel) (ev_k_eq hx10 ev_rng0) (by decide +kernel) ?_ ?_
    · intro c11
      exact ev_r_return (pc := 252) (x := ()) trivial (by decide +kernel) (by decide +kernel) rfl
    · intro c11
      refine ev_r_aload_n (pc := 167) (k := 0) (v := .ref k) trivial (by decide +kernel) (by exact (ev_l1 (by rfl) (by decide) (by decide))) ?_
      refine ev_r_iload_n (pc := 168) (k := 1) (v := Int32.ofInt a0) (by decide +kernel) (by exact (ev_l1 (by rfl) (by decide) (by decide))) ?_
      refine ev_r_iconst (pc := 169) (k := 1) (by decide +kernel) ?_
      refine ev_r_iadd (pc := 170) (by decide +kernel) ?_
      intro x12 hx12
      refine ev_r_iconst (pc := 171) (k := 0) (by decide +kernel) ?_
      refine ev_r_virt (pc := 172) (y := 118) (mi := 164) (na := 2) (k := k) (as := [.int (Int32.ofInt x12), .int (Int32.ofInt 0)]) (rest := []) (encc := ev_oU) (Q := ev_PU) (fun x S1 h => jt_164 d (by omega) Q k x12 0 hk hx12 (by decide) s9 x S1 h) (by exact hk) (by decide +kernel) (by decide +kernel) (by decide +kernel) (by decide +kernel) rfl (by (try simp only [ev_sum, ev_nv_cat]); first | done | rfl) ?_
      intro _ s13 _
      show ev_w _ _ _ _ _ [] _ _ _ _
      refine ev_r_goto (pc := 175) (o := 77) (t := 252) (by decide +kernel) (by decide +kernel) ?_
      exact ev_r_return (pc := 252) (x := ()) trivial (by decide +kernel) (by decide +kernel) rfl
  · intro c7
    refine ev_r_ite ?_ ?_
    · intro c14
      refine ev_r_sw (pc := 20) (i := (.tableswitch 158 1 5 #[137, 36, 48, 68, 88])) (len := 36) (pc' := 56) (by decide +kernel) (by rw [c14]; rw [ev_pure_tsw]; exact ev_tsw_c (o := 36) (by decide) (by decide) rfl (by decide +kernel)) ?_
      refine ev_r_aload_n (pc := 56) (k := 0) (v := .ref k) trivial (by decide +kernel) (by exact (ev_l1 (by rfl) (by decide) (by decide))) ?_
      refine ev_r_iload_n (pc := 57) (k := 1) (v := Int32.ofInt a0) (by decide +kernel) (by exact (ev_l1 (by rfl) (by decide) (by decide))) ?_
      refine ev_r_iload (pc := 58) (k := 4) (v := Int32.ofInt x3) (by decide +kernel) (by exact ev_lk_st1_self) ?_
      refine ev_r_iadd (pc := 60) (by decide +kernel) ?_
      intro x15 hx15
      refine ev_r_iconst (pc := 61) (k := 0) (by decide +kernel) ?_
      refine ev_r_virt (pc := 62) (y := 118) (mi := 164) (na := 2) (k := k) (as := [.int (Int32.ofInt x15), .int (Int32.ofInt 0)]) (rest := []) (encc := ev_oU) (Q := ev_PU) (fun x S1 h => jt_164 d (by omega) Q k x15 0 hk hx15 (by decide) S x S1 h) (by exact hk) (by decide +kernel) (by decide +kernel) (by decide +kernel) (by decide +kernel) rfl (by (try simp only [ev_sum, ev_nv_cat]); first | done | rfl) ?_
      intro _ s16 _
      show ev_w _ _ _ _ _ [] _ _ _ _
      refine ev_r_goto (pc := 65) (o := 187) (t := 252) (by decide +kernel) (by decide +kernel) ?_
      exact ev_r_return (pc := 252) (x := ()) trivial (by decide +kernel) (by decide +kernel) rfl
    · intro c14
      refine ev_r_ite ?_ ?_
      · intro c17
        refine ev_r_sw (pc := 20) (i := (.tableswitch 158 1 5 #[137, 36, 48, 68, 88])) (len := 36) (pc' := 68) (by decide +kernel) (by rw [c17]; rw [ev_pure_tsw]; exact ev_tsw_c (o := 48) (by decide) (by decide) rfl (by decide +kernel)) ?_
        refine ev_r_aload_n (pc := 68) (k := 0) (v := .ref k) trivial (by decide +kernel) (by exact (ev_l1 (by rfl) (by decide) (by decide))) ?_
        refine ev_r_iload_n (pc := 69) (k := 1) (v := Int32.ofInt a0) (by decide +kernel) (by exact (ev_l1 (by rfl) (by decide) (by decide))) ?_
        refine ev_r_iload (pc := 70) (k := 4) (v := Int32.ofInt x3) (by decide +kernel) (by exact ev_lk_st1_self) ?_
        refine ev_r_iadd (pc := 72) (by decide +kernel) ?_
        intro x18 hx18
        refine ev_r_iconst (pc := 73) (k := 0) (by decide +kernel) ?_
        refine ev_r_virt (pc := 74) (y := 118) (mi := 164) (na := 2) (k := k) (as := [.int (Int32.ofInt x18), .int (Int32.ofInt 0)]) (rest := []) (encc := ev_oU) (Q := ev_PU) (fun x S1 h => jt_164 d (by omega) Q k x18 0 hk hx18 (by decide) S x S1 h) (by exact hk) (by decide +kernel) (by decide +kernel) (by decide +kernel) (by decide +kernel) rfl (by (try simp only [ev_sum, ev_nv_cat]); first | done | rfl) ?_
        intro _ s19 _
        show ev_w _ _ _ _ _ [] _ _ _ _
        refine ev_r_aload_n (pc := 77) (k := 0) (v := .ref k) trivial (by decide +kernel) (by exact (ev_l1 (by rfl) (by decide) (by decide))) ?_
        refine ev_r_iload_n (pc := 78) (k := 1) (v := Int32.ofInt a0) (by decide +kernel) (by exact (ev_l1 (by rfl) (by decide) (by decide))) ?_
        refine ev_r_iconst (pc := 79) (k := 1) (by decide +kernel) ?_
        refine ev_r_iadd (pc := 80) (by decide +kernel) ?_
        intro x20 hx20
        refine ev_r_iconst (pc := 81) (k := 0) (by decide +kernel) ?_
        refine ev_r_virt (pc := 82) (y := 118) (mi := 164) (na := 2) (k := k) (as := [.int (Int32.ofInt x20), .int (Int32.ofInt 0)]) (rest := []) (encc := ev_oU) (Q := ev_PU) (fun x S1 h => jt_164 d (by omega) Q k x20 0 hk hx20 (by decide) s19 x S1 h) (by exact hk) (by decide +kernel) (by decide +kernel) (by decide +kernel) (by decide +kernel) rfl (by (try simp only [ev_sum, ev_nv_cat]); first | done | rfl) ?_
        intro _ s21 _
        show ev_w _ _ _ _ _ [] _ _ _ _
        refine ev_r_goto (pc := 85) (o := 167) (t := 252) (by decide +kernel) (by decide +kernel) ?_
        exact ev_r_return (pc := 252) (x := ()) trivial (by decide +kernel) (by decide +kernel) rfl
      · intro c17
        refine ev_r_ite ?_ ?_
        · intro c22
          refine ev_r_sw (pc := 20) (i := (.tableswitch 158 1 5 #[137, 36, 48, 68, 88])) (len := 36) (pc' := 88) (by decide +kernel) (by rw [c22]; rw [ev_pure_tsw]; exact ev_tsw_c (o := 68) (by decide) (by decide) rfl (by decide +kernel)) ?_
          refine ev_r_aload_n (pc := 88) (k := 0) (v := .ref k) trivial (by decide +kernel) (by exact (ev_l1 (by rfl) (by decide) (by decide))) ?_
          refine ev_r_iload_n (pc := 89) (k := 1) (v := Int32.ofInt a0) (by decide +kernel) (by exact (ev_l1 (by rfl) (by decide) (by decide))) ?_
          refine ev_r_iconst (pc := 90) (k := 1) (by decide +kernel) ?_
          refine ev_r_iadd (pc := 91) (by decide +kernel) ?_
          intro x23 hx23
          refine ev_r_iconst (pc := 92) (k := 0) (by decide +kernel) ?_
          refine ev_r_virt (pc := 93) (y := 118) (mi := 164) (na := 2) (k := k) (as := [.int (Int32.ofInt x23), .int (Int32.ofInt 0)]) (rest := []) (encc := ev_oU) (Q := ev_PU) (fun x S1 h => jt_164 d (by omega) Q k x23 0 hk hx23 (by decide) S x S1 h) (by exact hk) (by decide +kernel) (by decide +kernel) (by decide +kernel) (by decide +kernel) rfl (by (try simp only [ev_sum, ev_nv_cat]); first | done | rfl) ?_
          intro _ s24 _
          show ev_w _ _ _ _ _ [] _ _ _ _
          refine ev_r_aload_n (pc := 96) (k := 0) (v := .ref k) trivial (by decide +kernel) (by exact (ev_l1 (by rfl) (by decide) (by decide))) ?_
          refine ev_r_iload_n (pc := 97) (k := 1) (v := Int32.ofInt a0) (by decide +kernel) (by exact (ev_l1 (by rfl) (by decide) (by decide))) ?_
          refine ev_r_iload (pc := 98) (k := 4) (v := Int32.ofInt x3) (by decide +kernel) (by exact ev_lk_st1_self) ?_
          refine ev_r_iadd (pc := 100) (by decide +kernel) ?_
          intro x25 hx25
          refine ev_r_iconst (pc := 101) (k := 0) (by decide +kernel) ?_
          refine ev_r_virt (pc := 102) (y := 118) (mi := 164) (na := 2) (k := k) (as := [.int (Int32.ofInt x25), .int (Int32.ofInt 0)]) (rest := []) (encc := ev_oU) (Q := ev_PU) (fun x S1 h => jt_164 d (by omega) Q k x25 0 hk hx25 (by decide) s24 x S1 h) (by exact hk) (by decide +kernel) (by decide +kernel) (by decide +kernel) (by decide +kernel) rfl (by (try simp only [ev_sum, ev_nv_cat]); first | done | rfl) ?_
          intro _ s26 _
          show ev_w _ _ _ _ _ [] _ _ _ _
          refine ev_r_goto (pc := 105) (o := 147) (t := 252) (by decide +kernel) (by decide +kernel) ?_
          exact ev_r_return (pc := 252) (x := ()) trivial (by decide +kernel) (by decide +kernel) rfl
        · intro c22
          refine ev_r_ite ?_ ?_
          · intro c27
            refine ev_r_sw (pc := 20) (i := (.tableswitch 158 1 5 #[137, 36, 48, 68, 88])) (len := 36) (pc' := 108) (by decide +kernel) (by rw [c27]; rw [ev_pure_tsw]; exact ev_tsw_c (o := 88) (by decide) (by decide) rfl (by decide +kernel)) ?_
            refine ev_r_iload (pc := 108) (k := 4) (v := Int32.ofInt x3) (by decide +kernel) (by exact ev_lk_st1_self) ?_
            refine ev_r_jn (Q := fun K => ∀ (s31 : ev_St) (w28 : List (Nat × Value)), ev_lk w28 0 = some (.ref k) → ev_lk w28 1 = some (.int (Int32.ofInt a0)) → ev_w none (ev_Mof 163) d 146 w28 [] s31 (K  s31) ev_eU ev_PU) ?_ ?_
            · intro  s31 w28 e29 e30
              refine ev_r_aload_n (pc := 146) (k := 0) (v := .ref k) trivial (by decide +kernel) (by exact e29) ?_
              refine ev_r_iload_n (pc := 147) (k := 1) (v := Int32.ofInt a0) (by decide +kernel) (by exact e30) ?_
              refine ev_r_iconst (pc := 148) (k := 1) (by decide +kernel) ?_
              refine ev_r_iadd (pc := 149) (by decide +kernel) ?_
              intro x32 hx32
              refine ev_r_iconst (pc := 150) (k := 0) (by decide +kernel) ?_
              refine ev_r_virt (pc := 151) (y := 118) (mi := 164) (na := 2) (k := k) (as := [.int (Int32.ofInt x32), .int (Int32.ofInt 0)]) (rest := []) (encc := ev_oU) (Q := ev_PU) (fun x S1 h => jt_164 d (by omega) Q k x32 0 hk hx32 (by decide) s31 x S1 h) (by exact hk) (by decide +kernel) (by decide +kernel) (by decide +kernel) (by decide +kernel) rfl (by (try simp only [ev_sum, ev_nv_cat]); first | done | rfl) ?_
              intro _ s33 _
              show ev_w _ _ _ _ _ [] _ _ _ _
              refine ev_r_goto (pc := 154) (o := 98) (t := 252) (by decide +kernel) (by decide +kernel) ?_
              exact ev_r_return (pc := 252) (x := ()) trivial (by decide +kernel) (by decide +kernel) rfl
            · intro K146 hK146
              refine ev_r_if (pc := 110) (q := .lt) (o := 36) (t := 146) (c := x3 < 0) (by decide +kernel) (ev_k_lt hx3 ev_rng0) (by decide +kernel) ?_ ?_
              · intro c34
                exact hK146  S _ (by exact (ev_l1 (by rfl) (by decide) (by decide))) (by exact (ev_l1 (by rfl) (by decide) (by decide)))
              · intro c34
                refine ev_r_iload (pc := 113) (k := 4) (v := Int32.ofInt x3) (by decide +kernel) (by exact ev_lk_st1_self) ?_
                refine ev_r_aload_n (pc := 115) (k := 0) (v := .ref k) trivial (by decide +kernel) (by exact (ev_l1 (by rfl) (by decide) (by decide))) ?_
                refine ev_r_getI (pc := 116) (y := 29) (ci := 11) (f := 0) (fin := 1) (by decide +kernel) (by decide +kernel) (by exact hk) rfl ?_
                intro x35 hx35
                refine ev_r_icmp (pc := 119) (q := .ge) (o := 27) (t := 146) (c := x35 ≤ x3) (by decide +kernel) (ev_k_ge hx3 hx35) (by decide +kernel) ?_ ?_
                · intro c36
                  exact hK146  S _ (by exact (ev_l1 (by rfl) (by decide) (by decide))) (by exact (ev_l1 (by rfl) (by decide) (by decide)))
                · intro c36
                  refine ev_r_aload_n (pc := 122) (k := 0) (v := .ref k) trivial (by decide +kernel) (by exact (ev_l1 (by rfl) (by decide) (by decide))) ?_
                  refine ev_r_iload (pc := 123) (k := 4) (v := Int32.ofInt x3) (by decide +kernel) (by exact ev_lk_st1_self) ?_
                  refine ev_r_ineg (pc := 125) (by decide +kernel) ?_
                  intro x37 hx37
                  refine ev_r_iconst (pc := 126) (k := 1) (by decide +kernel) ?_
                  refine ev_r_isub (pc := 127) (by decide +kernel) ?_
                  intro x38 hx38
                  refine ev_r_aload_n (pc := 128) (k := 0) (v := .ref k) trivial (by decide +kernel) (by exact (ev_l1 (by rfl) (by decide) (by decide))) ?_
                  refine ev_r_getC (pc := 129) (y := 33) (ci := 11) (f := 1) (fin := 1) (k' := (k + 6)) (by decide +kernel) (by decide +kernel) (by exact hk) rfl rfl ?_
                  refine ev_r_iload (pc := 132) (k := 4) (v := Int32.ofInt x3) (by decide +kernel) (by exact ev_lk_st1_self) ?_
                  refine ev_r_iald (pc := 134) hx3 (by decide +kernel) (by exact (ev_fo_11_1 hk)) ?_
                  intro x39 hx39
                  refine ev_r_virt (pc := 135) (y := 118) (mi := 164) (na := 2) (k := k) (as := [.int (Int32.ofInt x38), .int (Int32.ofInt x39)]) (rest := []) (encc := ev_oU) (Q := ev_PU) (fun x S1 h => jt_164 d (by omega) Q k x38 x39 hk hx38 hx39 S x S1 h) (by exact hk) (by decide +kernel) (by decide +kernel) (by decide +kernel) (by decide +kernel) rfl (by (try simp only [ev_sum, ev_nv_cat]); first | done | rfl) ?_
                  intro _ s40 _
                  show ev_w _ _ _ _ _ [] _ _ _ _
                  refine ev_r_aload_n (pc := 138) (k := 0) (v := .ref k) trivial (by decide +kernel) (by exact (ev_l1 (by rfl) (by decide) (by decide))) ?_
                  refine ev_r_getC (pc := 139) (y := 33) (ci := 11) (f := 1) (fin := 1) (k' := (k + 6)) (by decide +kernel) (by decide +kernel) (by exact hk) rfl rfl ?_
                  refine ev_r_iload (pc := 142) (k := 4) (v := Int32.ofInt x3) (by decide +kernel) (by exact ev_lk_st1_self) ?_
                  refine ev_r_iload_n (pc := 144) (k := 3) (v := Int32.ofInt a2) (by decide +kernel) (by exact (ev_lk_st1 (by rfl) (by decide) rfl)) ?_
                  refine ev_r_iast (pc := 145) ha2 hx3 (by decide +kernel) (by exact (ev_fo_11_1 hk)) ?_
                  intro s41
                  exact hK146  s41 _ (by exact (ev_l1 (by rfl) (by decide) (by decide))) (by exact (ev_l1 (by rfl) (by decide) (by decide)))
          · intro c27
            refine ev_r_sw (pc := 20) (i := (.tableswitch 158 1 5 #[137, 36, 48, 68, 88])) (len := 36) (pc' := 178) (by decide +kernel) (by rw [ev_pure_tsw]; exact ev_tsw_d hx6 (by omega) (by decide +kernel)) ?_
            refine ev_r_aload_n (pc := 178) (k := 0) (v := .ref k) trivial (by decide +kernel) (by exact (ev_l1 (by rfl) (by decide) (by decide))) ?_
            refine ev_r_getR (pc := 179) (y := 67) (ci := 11) (f := 11) (fin := 0) (t := 6) (by decide +kernel) (by decide +kernel) (by exact hk) rfl rfl ?_
            intro r42 hr42
            have hr42 : r42 = 0 ∨ ev_isOb (r42 - 1) 6 = true := hr42
            refine ev_r_chk ?_
            intro c43
            refine ev_r_dr (r := r42) (fun v => [v]) c43 ?_
            refine ev_r_getC (pc := 182) (y := 132) (ci := 6) (f := 4) (fin := 2) (k' := ((r42 - 1) + 5)) (by decide +kernel) (by decide +kernel) (by exact (hr42.resolve_left c43)) rfl rfl ?_
            refine ev_r_iload_n (pc := 185) (k := 1) (v := Int32.ofInt a0) (by decide +kernel) (by exact (ev_l1 (by rfl) (by decide) (by decide))) ?_
            refine ev_r_bald (pc := 186) (ty := .boolean) (Or.inr rfl) ha0 (by decide +kernel) (by exact (ev_fo_6_4 (hr42.resolve_left c43))) ?_
            intro x44 hx44
            refine ev_r_if (pc := 187) (q := .eq) (o := 65) (t := 252) (c := x44 = 0) (by decide +kernel) (ev_k_eq hx44 ev_rng0) (by decide +kernel) ?_ ?_
            · intro c45
              exact ev_r_return (pc := 252) (x := ()) trivial (by decide +kernel) (by decide +kernel) rfl
            · intro c45
              refine ev_r_aload_n (pc := 190) (k := 0) (v := .ref k) trivial (by decide +kernel) (by exact (ev_l1 (by rfl) (by decide) (by decide))) ?_
              refine ev_r_getI (pc := 191) (y := 62) (ci := 11) (f := 15) (fin := 0) (by decide +kernel) (by decide +kernel) (by exact hk) rfl ?_
              intro x46 hx46
              refine ev_r_if (pc := 194) (q := .lt) (o := 58) (t := 252) (c := x46 < 0) (by decide +kernel) (ev_k_lt hx46 ev_rng0) (by decide +kernel) ?_ ?_
              · intro c47
                exact ev_r_return (pc := 252) (x := ()) trivial (by decide +kernel) (by decide +kernel) rfl
              · intro c47
                refine ev_r_aload_n (pc := 197) (k := 0) (v := .ref k) trivial (by decide +kernel) (by exact (ev_l1 (by rfl) (by decide) (by decide))) ?_
                refine ev_r_getI (pc := 198) (y := 62) (ci := 11) (f := 15) (fin := 0) (by decide +kernel) (by decide +kernel) (by exact hk) rfl ?_
                intro x48 hx48
                refine ev_r_sipush (pc := 201) (k := 208) (by decide +kernel) (by decide +kernel) ?_
                refine ev_r_icmp (pc := 204) (q := .ge) (o := 48) (t := 252) (c := 208 ≤ x48) (by decide +kernel) (ev_k_ge hx48 (by decide)) (by decide +kernel) ?_ ?_
                · intro c49
                  exact ev_r_return (pc := 252) (x := ()) trivial (by decide +kernel) (by decide +kernel) rfl
                · intro c49
                  refine ev_r_aload_n (pc := 207) (k := 0) (v := .ref k) trivial (by decide +kernel) (by exact (ev_l1 (by rfl) (by decide) (by decide))) ?_
                  refine ev_r_getR (pc := 208) (y := 11) (ci := 11) (f := 2) (fin := 0) (t := 100) (by decide +kernel) (by decide +kernel) (by exact hk) rfl rfl ?_
                  intro r50 hr50
                  have hr50 : r50 = 0 ∨ ev_isAb (r50 - 1) 1 .int = true := hr50
                  refine ev_r_aload_n (pc := 211) (k := 0) (v := .ref k) trivial (by decide +kernel) (by exact (ev_l1 (by rfl) (by decide) (by decide))) ?_
                  refine ev_r_getI (pc := 212) (y := 62) (ci := 11) (f := 15) (fin := 0) (by decide +kernel) (by decide +kernel) (by exact hk) rfl ?_
                  intro x51 hx51
                  refine ev_r_iload_n (pc := 215) (k := 1) (v := Int32.ofInt a0) (by decide +kernel) (by exact (ev_l1 (by rfl) (by decide) (by decide))) ?_
                  refine ev_r_chk ?_
                  intro c52
                  refine ev_r_dr (r := r50) (fun v => [.int (Int32.ofInt a0), .int (Int32.ofInt x51), v]) c52 ?_
                  refine ev_r_iast (pc := 216) ha0 hx51 (by decide +kernel) (by exact (hr50.resolve_left c52)) ?_
                  intro s53
                  refine ev_r_aload_n (pc := 217) (k := 0) (v := .ref k) trivial (by decide +kernel) (by exact (ev_l1 (by rfl) (by decide) (by decide))) ?_
                  refine ev_r_getC (pc := 218) (y := 33) (ci := 11) (f := 1) (fin := 1) (k' := (k + 6)) (by decide +kernel) (by decide +kernel) (by exact hk) rfl rfl ?_
                  refine ev_r_iconst (pc := 221) (k := 0) (by decide +kernel) ?_
                  refine ev_r_aload_n (pc := 222) (k := 0) (v := .ref k) trivial (by decide +kernel) (by exact (ev_l1 (by rfl) (by decide) (by decide))) ?_
                  refine ev_r_getR (pc := 223) (y := 39) (ci := 11) (f := 4) (fin := 0) (t := 100) (by decide +kernel) (by decide +kernel) (by exact hk) rfl rfl ?_
                  intro r54 hr54
                  have hr54 : r54 = 0 ∨ ev_isAb (r54 - 1) 1 .int = true := hr54
                  refine ev_r_aload_n (pc := 226) (k := 0) (v := .ref k) trivial (by decide +kernel) (by exact (ev_l1 (by rfl) (by decide) (by decide))) ?_
                  refine ev_r_getI (pc := 227) (y := 29) (ci := 11) (f := 0) (fin := 1) (by decide +kernel) (by decide +kernel) (by exact hk) rfl ?_
                  intro x55 hx55
                  refine ev_r_aload_n (pc := 230) (k := 0) (v := .ref k) trivial (by decide +kernel) (by exact (ev_l1 (by rfl) (by decide) (by decide))) ?_
                  refine ev_r_getI (pc := 231) (y := 62) (ci := 11) (f := 15) (fin := 0) (by decide +kernel) (by decide +kernel) (by exact hk) rfl ?_
                  intro x56 hx56
                  refine ev_r_imul (pc := 234) (by decide +kernel) ?_
                  intro x57 hx57
                  refine ev_r_aload_n (pc := 235) (k := 0) (v := .ref k) trivial (by decide +kernel) (by exact (ev_l1 (by rfl) (by decide) (by decide))) ?_
                  refine ev_r_getI (pc := 236) (y := 29) (ci := 11) (f := 0) (fin := 1) (by decide +kernel) (by decide +kernel) (by exact hk) rfl ?_
                  intro x58 hx58
                  refine ev_r_chk ?_
                  intro c60
                  refine ev_r_dr (r := r54) (fun v => [.int (Int32.ofInt x58), .int (Int32.ofInt x57), v, .int (Int32.ofInt 0), .ref ((k + 6))]) c60 ?_
                  refine ev_r_copyI (pc := 239) (y := 94) ⟨(by decide), hx57, hx58⟩ (by decide +kernel) (by decide +kernel) (by (try simp only [ev_sum, ev_nv_cat]); first | done | rfl) (by exact (ev_fo_11_1 hk)) (by exact (hr54.resolve_left c60)) ?_
                  intro s59
                  refine ev_r_aload_n (pc := 242) (k := 0) (v := .ref k) trivial (by decide +kernel) (by exact (ev_l1 (by rfl) (by decide) (by decide))) ?_
                  refine ev_r_dup (pc := 243) rfl (by decide +kernel) ?_
                  refine ev_r_getI (pc := 244) (y := 62) (ci := 11) (f := 15) (fin := 0) (by decide +kernel) (by decide +kernel) (by exact hk) rfl ?_
                  intro x61 hx61
                  refine ev_r_iconst (pc := 247) (k := 1) (by decide +kernel) ?_
                  refine ev_r_iadd (pc := 248) (by decide +kernel) ?_
                  intro x62 hx62
                  refine ev_r_putI (pc := 249) (y := 62) (ci := 11) (f := 15) hx62 (by decide +kernel) (by decide +kernel) (by exact hk) rfl rfl ?_
                  intro s63
                  exact ev_r_return (pc := 252) (x := ()) trivial (by decide +kernel) (by decide +kernel) rfl
def jb_162_14 (Q : Nat) (k : Nat) (a1 : Nat) (a2 : Int)  (K14 : Int → ev_St → Option ((Unit) × ev_St)) (x3 : Int) (s9 : ev_St) : Option ((Unit) × ev_St) := if 1664 ≤ x3 then (some ((), s9)) else (ev_b (s9.1 k 10) fun x11 => if x11 ≤ 0 then (some ((), s9)) else (ev_b (s9.1 k 10) fun x13 => ev_ck (x13 - 1) fun x14 => ev_b (ev_pI s9 k 10 x14) fun s15 => ev_b (s15.1 k 10) fun x16 => ev_if ((0 : Int) ≤ x16 ∧ x16 < (ev_aln ((k + 4)) : Int)) (ev_b (s15.1 ((k + 4)) (Int.toNat x16)) fun x17 => ev_jn (fun  (s23 : ev_St) => ev_ck (x3 + 1) fun x24 => K14 x24 s23) fun K135 => if 0 ≤ x17 then (ev_b (s15.2.2.1 k 11) fun r26 => ev_if (r26 ≠ 0) (ev_bd (jm_70 Q ((r26 - 1)) x17 s15) fun x29 s28 => if x29 = 0 then (K135  s28) else (ev_if ((0 : Int) ≤ x17 ∧ x17 < (ev_aln ((k + 3)) : Int)) (ev_b (s28.1 ((k + 3)) (Int.toNat x17)) fun x31 => ev_b (s28.1 k 7) fun x32 => if x31 = x32 then (K135  s28) else (ev_b (s28.1 k 7) fun x34 => ev_if ((0 : Int) ≤ x17 ∧ x17 < (ev_aln ((k + 3)) : Int)) (ev_b (ev_pI s28 ((k + 3)) (Int.toNat x17) x34) fun s35 => ev_bd (jm_163 Q k x17 a1 a2 s35) fun _ s36 => K135  s36)))))) else (ev_ck (-x17) fun x37 => ev_ck (x37 - 1) fun x38 => ev_b (s15.1 k 0) fun x39 => ev_jn (fun  (s45 : ev_St) => K135  s45) fun K87 => if x39 ≤ x38 then (K87  s15) else (ev_b (s15.1 k 10) fun x47 => ev_if ((0 : Int) ≤ x47 ∧ x47 < (ev_aln ((k + 5)) : Int)) (ev_b (s15.1 ((k + 5)) (Int.toNat x47)) fun x48 => ev_if ((0 : Int) ≤ x38 ∧ x38 < (ev_aln ((k + 6)) : Int)) (ev_b (ev_pI s15 ((k + 6)) (Int.toNat x38) x48) fun s49 => K87  s49)))))))
def jl_162_14 (Q : Nat) (k : Nat) (a1 : Nat) (a2 : Int)  : Nat → Int → ev_St → Option ((Unit) × ev_St)
  | 0 => fun _ _ => none
  | q + 1 => jb_162_14 Q k a1 a2  (jl_162_14 Q k a1 a2  q)
theorem jbt_162_14 (d : Nat) (hd : 4 ≤ d + 1) (Q : Nat) (k : Nat) (a1 : Nat) (a2 : Int) (hk : ev_isOb k 11 = true) (ha1 : a1 = 0 ∨ ev_isOb (a1 - 1) 10 = true) (ha2 : ev_rng a2)   (K14 : Int → ev_St → Option ((Unit) × ev_St)) (hK14 : ∀ (x3 : Int) (hx3 : ev_rng x3), ∀ (s9 : ev_St) (w4 : List (Nat × Value)), ev_lk w4 0 = some (.ref k) → ev_lk w4 2 = some (ev_nv a1) → ev_lk w4 3 = some (.int (Int32.ofInt a2)) → ev_lk w4 4 = some (.int (Int32.ofInt x3)) → ev_w none (ev_Mof 162) d 14 w4 [] s9 (K14 x3 s9) ev_eU ev_PU) : ∀ (x3 : Int) (hx3 : ev_rng x3), ∀ (s9 : ev_St) (w4 : List (Nat × Value)), ev_lk w4 0 = some (.ref k) → ev_lk w4 2 = some (ev_nv a1) → ev_lk w4 3 = some (.int (Int32.ofInt a2)) → ev_lk w4 4 = some (.int (Int32.ofInt x3)) → ev_w none (ev_Mof 162) d 14 w4 [] s9 (jb_162_14 Q k a1 a2  K14 x3 s9) ev_eU ev_PU := by
  intro x3 hx3 s9 w4 e5 e6 e7 e8
  unfold jb_162_14
  refine ev_r_iload (pc := 14) (k := 4) (v := Int32.ofInt x3) (by decide +kernel) (by exact e8) ?_
  refine ev_r_sipush (pc := 16) (k := 1664) (by decide +kernel) (by decide +kernel) ?_
  refine ev_r_icmp (pc := 19) (q := .ge) (o := 122) (t := 141) (c := 1664 ≤ x3) (by decide +kernel) (ev_k_ge hx3 (by decide)) (by decide +kernel) ?_ ?_
  · intro c10
    exact ev_r_return (pc := 141) (x := ()) trivial (by decide +kernel) (by decide +kernel) rfl
  · intro c10
    refine ev_r_aload_n (pc := 22) (k := 0) (v := .ref k) trivial (by decide +kernel) (by exact e5) ?_
    refine ev_r_getI (pc := 23) (y := 115) (ci := 11) (f := 10) (fin := 0) (by decide +kernel) (by decide +kernel) (by exact hk) rfl ?_
    intro x11 hx11
    refine ev_r_if (pc := 26) (q := .le) (o := 115) (t := 141) (c := x11 ≤ 0) (by decide +kernel) (ev_k_le hx11 ev_rng0) (by decide +kernel) ?_ ?_
    · intro c12
      exact ev_r_return (pc := 141) (x := ()) trivial (by decide +kernel) (by decide +kernel) rfl
    · intro c12
      refine ev_r_aload_n (pc := 29) (k := 0) (v := .ref k) trivial (by decide +kernel) (by exact e5) ?_
      refine ev_r_dup (pc := 30) rfl (by decide +kernel) ?_
      refine ev_r_getI (pc := 31) (y := 115) (ci := 11) (f := 10) (fin := 0) (by decide +kernel) (by decide +kernel) (by exact hk) rfl ?_
      intro x13 hx13
      refine ev_r_iconst (pc := 34) (k := 1) (by decide +kernel) ?_
      refine ev_r_isub (pc := 35) (by decide +kernel) ?_
      intro x14 hx14
      refine ev_r_putI (pc := 36) (y := 115) (ci := 11) (f := 10) hx14 (by decide +kernel) (by decide +kernel) (by exact hk) rfl rfl ?_
      intro s15
      refine ev_r_aload_n (pc := 39) (k := 0) (v := .ref k) trivial (by decide +kernel) (by exact e5) ?_
      refine ev_r_getC (pc := 40) (y := 23) (ci := 11) (f := 8) (fin := 1) (k' := (k + 4)) (by decide +kernel) (by decide +kernel) (by exact hk) rfl rfl ?_
      refine ev_r_aload_n (pc := 43) (k := 0) (v := .ref k) trivial (by decide +kernel) (by exact e5) ?_
      refine ev_r_getI (pc := 44) (y := 115) (ci := 11) (f := 10) (fin := 0) (by decide +kernel) (by decide +kernel) (by exact hk) rfl ?_
      intro x16 hx16
      refine ev_r_iald (pc := 47) hx16 (by decide +kernel) (by exact (ev_fo_11_8 hk)) ?_
      intro x17 hx17
      refine ev_r_istore (pc := 48) (k := 5) (by decide +kernel) (by decide +kernel) rfl ?_
      refine ev_r_iload (pc := 50) (k := 5) (v := Int32.ofInt x17) (by decide +kernel) (by exact ev_lk_st1_self) ?_
      refine ev_r_jn (Q := fun K => ∀ (s23 : ev_St) (w18 : List (Nat × Value)), ev_lk w18 0 = some (.ref k) → ev_lk w18 2 = some (ev_nv a1) → ev_lk w18 3 = some (.int (Int32.ofInt a2)) → ev_lk w18 4 = some (.int (Int32.ofInt x3)) → ev_w none (ev_Mof 162) d 135 w18 [] s23 (K  s23) ev_eU ev_PU) ?_ ?_
      · intro  s23 w18 e19 e20 e21 e22
        refine ev_r_iinc (pc := 135) (k := 4) (c := 1) (x := x3) (by decide +kernel) (by decide +kernel) (by exact e22) (fun _ => rfl) ?_
        intro x24 hx24
        refine ev_r_goto (pc := 138) (o := (-124)) (t := 14) (by decide +kernel) (by decide +kernel) ?_
        exact hK14 x24 hx24 s23 _ (by exact (ev_l1 e19 (by decide) (by decide))) (by exact (ev_l1 e20 (by decide) (by decide))) (by exact (ev_lk_st1 e21 (by decide) rfl)) (by exact ev_lk_st1_self)
      · intro K135 hK135
        refine ev_r_if (pc := 52) (q := .ge) (o := 38) (t := 90) (c := 0 ≤ x17) (by decide +kernel) (ev_k_ge hx17 ev_rng0) (by decide +kernel) ?_ ?_
        · intro c25
          refine ev_r_aload_n (pc := 90) (k := 0) (v := .ref k) trivial (by decide +kernel) (by exact (ev_l1 e5 (by decide) (by decide))) ?_
          refine ev_r_getR (pc := 91) (y := 67) (ci := 11) (f := 11) (fin := 0) (t := 6) (by decide +kernel) (by decide +kernel) (by exact hk) rfl rfl ?_
          intro r26 hr26
          have hr26 : r26 = 0 ∨ ev_isOb (r26 - 1) 6 = true := hr26
          refine ev_r_iload (pc := 94) (k := 5) (v := Int32.ofInt x17) (by decide +kernel) (by exact ev_lk_st1_self) ?_
          refine ev_r_chk ?_
          intro c27
          refine ev_r_dr (r := r26) (fun v => [.int (Int32.ofInt x17), v]) c27 ?_
          refine ev_r_virt (pc := 96) (y := 87) (mi := 70) (na := 1) (k := (r26 - 1)) (as := [.int (Int32.ofInt x17)]) (rest := []) (encc := ev_oI) (Q := ev_bl) (fun x S1 h => jt_70 d (by omega) Q ((r26 - 1)) x17 (hr26.resolve_left c27) hx17 s15 x S1 h) (by exact (hr26.resolve_left c27)) (by decide +kernel) (by decide +kernel) (by decide +kernel) (by decide +kernel) rfl (by (try simp only [ev_sum, ev_nv_cat]); first | done | rfl) ?_
          intro x29 s28 hx29
          replace hx29 := ev_bl_rng hx29
          show ev_w _ _ _ _ _ [.int (Int32.ofInt x29)] _ _ _ _
          refine ev_r_if (pc := 99) (q := .eq) (o := 36) (t := 135) (c := x29 = 0) (by decide +kernel) (ev_k_eq hx29 ev_rng0) (by decide +kernel) ?_ ?_
          · intro c30
            exact hK135  s28 _ (by exact (ev_l1 e5 (by decide) (by decide))) (by exact (ev_l1 e6 (by decide) (by decide))) (by exact (ev_l1 e7 (by decide) (by decide))) (by exact (ev_lk_st1 e8 (by decide) rfl))
          · intro c30
            refine ev_r_aload_n (pc := 102) (k := 0) (v := .ref k) trivial (by decide +kernel) (by exact (ev_l1 e5 (by decide) (by decide))) ?_
            refine ev_r_getC (pc := 103) (y := 20) (ci := 11) (f := 6) (fin := 1) (k' := (k + 3)) (by decide +kernel) (by decide +kernel) (by exact hk) rfl rfl ?_
            refine ev_r_iload (pc := 106) (k := 5) (v := Int32.ofInt x17) (by decide +kernel) (by exact ev_lk_st1_self) ?_
            refine ev_r_iald (pc := 108) hx17 (by decide +kernel) (by exact (ev_fo_11_6 hk)) ?_
            intro x31 hx31
            refine ev_r_aload_n (pc := 109) (k := 0) (v := .ref k) trivial (by decide +kernel) (by exact (ev_l1 e5 (by decide) (by decide))) ?_
            refine ev_r_getI (pc := 110) (y := 71) (ci := 11) (f := 7) (fin := 0) (by decide +kernel) (by decide +kernel) (by exact hk) rfl ?_
            intro x32 hx32
            refine ev_r_icmp (pc := 113) (q := .eq) (o := 22) (t := 135) (c := x31 = x32) (by decide +kernel) (ev_k_eq hx31 hx32) (by decide +kernel) ?_ ?_
            · intro c33
              exact hK135  s28 _ (by exact (ev_l1 e5 (by decide) (by decide))) (by exact (ev_l1 e6 (by decide) (by decide))) (by exact (ev_l1 e7 (by decide) (by decide))) (by exact (ev_lk_st1 e8 (by decide) rfl))
            · intro c33
              refine ev_r_aload_n (pc := 116) (k := 0) (v := .ref k) trivial (by decide +kernel) (by exact (ev_l1 e5 (by decide) (by decide))) ?_
              refine ev_r_getC (pc := 117) (y := 20) (ci := 11) (f := 6) (fin := 1) (k' := (k + 3)) (by decide +kernel) (by decide +kernel) (by exact hk) rfl rfl ?_
              refine ev_r_iload (pc := 120) (k := 5) (v := Int32.ofInt x17) (by decide +kernel) (by exact ev_lk_st1_self) ?_
              refine ev_r_aload_n (pc := 122) (k := 0) (v := .ref k) trivial (by decide +kernel) (by exact (ev_l1 e5 (by decide) (by decide))) ?_
              refine ev_r_getI (pc := 123) (y := 71) (ci := 11) (f := 7) (fin := 0) (by decide +kernel) (by decide +kernel) (by exact hk) rfl ?_
              intro x34 hx34
              refine ev_r_iast (pc := 126) hx34 hx17 (by decide +kernel) (by exact (ev_fo_11_6 hk)) ?_
              intro s35
              refine ev_r_aload_n (pc := 127) (k := 0) (v := .ref k) trivial (by decide +kernel) (by exact (ev_l1 e5 (by decide) (by decide))) ?_
              refine ev_r_iload (pc := 128) (k := 5) (v := Int32.ofInt x17) (by decide +kernel) (by exact ev_lk_st1_self) ?_
              refine ev_r_aload_n (pc := 130) (k := 2) (v := ev_nv a1) (ev_isR_nv _) (by decide +kernel) (by exact (ev_l1 e6 (by decide) (by decide))) ?_
              refine ev_r_iload_n (pc := 131) (k := 3) (v := Int32.ofInt a2) (by decide +kernel) (by exact (ev_l1 e7 (by decide) (by decide))) ?_
              refine ev_r_virt (pc := 132) (y := 122) (mi := 163) (na := 3) (k := k) (as := [.int (Int32.ofInt x17), ev_nv a1, .int (Int32.ofInt a2)]) (rest := []) (encc := ev_oU) (Q := ev_PU) (fun x S1 h => jt_163 d (by omega) Q k x17 a1 a2 hk hx17 (by exact ha1) ha2 s35 x S1 h) (by exact hk) (by decide +kernel) (by decide +kernel) (by decide +kernel) (by decide +kernel) rfl (by (try simp only [ev_sum, ev_nv_cat]); first | done | rfl) ?_
              intro _ s36 _
              show ev_w _ _ _ _ _ [] _ _ _ _
              exact hK135  s36 _ (by exact (ev_l1 e5 (by decide) (by decide))) (by exact (ev_l1 e6 (by decide) (by decide))) (by exact (ev_l1 e7 (by decide) (by decide))) (by exact (ev_lk_st1 e8 (by decide) rfl))
        · intro c25
          refine ev_r_iload (pc := 55) (k := 5) (v := Int32.ofInt x17) (by decide +kernel) (by exact ev_lk_st1_self) ?_
          refine ev_r_ineg (pc := 57) (by decide +kernel) ?_
          intro x37 hx37
          refine ev_r_iconst (pc := 58) (k := 1) (by decide +kernel) ?_
          refine ev_r_isub (pc := 59) (by decide +kernel) ?_
          intro x38 hx38
          refine ev_r_istore (pc := 60) (k := 6) (by decide +kernel) (by decide +kernel) rfl ?_
          refine ev_r_iload (pc := 62) (k := 6) (v := Int32.ofInt x38) (by decide +kernel) (by exact ev_lk_st1_self) ?_
          refine ev_r_aload_n (pc := 64) (k := 0) (v := .ref k) trivial (by decide +kernel) (by exact (ev_l1 (ev_l1 e5 (by decide) (by decide)) (by decide) (by decide))) ?_
          refine ev_r_getI (pc := 65) (y := 29) (ci := 11) (f := 0) (fin := 1) (by decide +kernel) (by decide +kernel) (by exact hk) rfl ?_
          intro x39 hx39
          refine ev_r_jn (Q := fun K => ∀ (s45 : ev_St) (w40 : List (Nat × Value)), ev_lk w40 0 = some (.ref k) → ev_lk w40 2 = some (ev_nv a1) → ev_lk w40 3 = some (.int (Int32.ofInt a2)) → ev_lk w40 4 = some (.int (Int32.ofInt x3)) → ev_w none (ev_Mof 162) d 87 w40 [] s45 (K  s45) ev_eU ev_PU) ?_ ?_
          · intro  s45 w40 e41 e42 e43 e44
            refine ev_r_goto (pc := 87) (o := 48) (t := 135) (by decide +kernel) (by decide +kernel) ?_
            exact hK135  s45 _ (by exact e41) (by exact e42) (by exact e43) (by exact e44)
          · intro K87 hK87
            refine ev_r_icmp (pc := 68) (q := .ge) (o := 19) (t := 87) (c := x39 ≤ x38) (by decide +kernel) (ev_k_ge hx38 hx39) (by decide +kernel) ?_ ?_
            · intro c46
              exact hK87  s15 _ (by exact (ev_l1 (ev_l1 e5 (by decide) (by decide)) (by decide) (by decide))) (by exact (ev_l1 (ev_l1 e6 (by decide) (by decide)) (by decide) (by decide))) (by exact (ev_l1 (ev_l1 e7 (by decide) (by decide)) (by decide) (by decide))) (by exact (ev_l1 (ev_lk_st1 e8 (by decide) rfl) (by decide) (by decide)))
            · intro c46
              refine ev_r_aload_n (pc := 71) (k := 0) (v := .ref k) trivial (by decide +kernel) (by exact (ev_l1 (ev_l1 e5 (by decide) (by decide)) (by decide) (by decide))) ?_
              refine ev_r_getC (pc := 72) (y := 33) (ci := 11) (f := 1) (fin := 1) (k' := (k + 6)) (by decide +kernel) (by decide +kernel) (by exact hk) rfl rfl ?_
              refine ev_r_iload (pc := 75) (k := 6) (v := Int32.ofInt x38) (by decide +kernel) (by exact ev_lk_st1_self) ?_
              refine ev_r_aload_n (pc := 77) (k := 0) (v := .ref k) trivial (by decide +kernel) (by exact (ev_l1 (ev_l1 e5 (by decide) (by decide)) (by decide) (by decide))) ?_
              refine ev_r_getC (pc := 78) (y := 26) (ci := 11) (f := 9) (fin := 1) (k' := (k + 5)) (by decide +kernel) (by decide +kernel) (by exact hk) rfl rfl ?_
              refine ev_r_aload_n (pc := 81) (k := 0) (v := .ref k) trivial (by decide +kernel) (by exact (ev_l1 (ev_l1 e5 (by decide) (by decide)) (by decide) (by decide))) ?_
              refine ev_r_getI (pc := 82) (y := 115) (ci := 11) (f := 10) (fin := 0) (by decide +kernel) (by decide +kernel) (by exact hk) rfl ?_
              intro x47 hx47
              refine ev_r_iald (pc := 85) hx47 (by decide +kernel) (by exact (ev_fo_11_9 hk)) ?_
              intro x48 hx48
              refine ev_r_iast (pc := 86) hx48 hx38 (by decide +kernel) (by exact (ev_fo_11_1 hk)) ?_
              intro s49
              exact hK87  s49 _ (by exact (ev_l1 (ev_l1 e5 (by decide) (by decide)) (by decide) (by decide))) (by exact (ev_l1 (ev_l1 e6 (by decide) (by decide)) (by decide) (by decide))) (by exact (ev_l1 (ev_l1 e7 (by decide) (by decide)) (by decide) (by decide))) (by exact (ev_l1 (ev_lk_st1 e8 (by decide) rfl) (by decide) (by decide)))
theorem jlt_162_14 (d : Nat) (hd : 4 ≤ d + 1) (Q : Nat) (k : Nat) (a1 : Nat) (a2 : Int) (hk : ev_isOb k 11 = true) (ha1 : a1 = 0 ∨ ev_isOb (a1 - 1) 10 = true) (ha2 : ev_rng a2)   : ∀ q : Nat, ∀ (x3 : Int) (hx3 : ev_rng x3), ∀ (s9 : ev_St) (w4 : List (Nat × Value)), ev_lk w4 0 = some (.ref k) → ev_lk w4 2 = some (ev_nv a1) → ev_lk w4 3 = some (.int (Int32.ofInt a2)) → ev_lk w4 4 = some (.int (Int32.ofInt x3)) → ev_w none (ev_Mof 162) d 14 w4 [] s9 (jl_162_14 Q k a1 a2  q x3 s9) ev_eU ev_PU := by
  intro q
  induction q with
  | zero =>
    intro x3 hx3 s9 w4 e5 e6 e7 e8
    exact ev_w_none
  | succ q ih => exact jbt_162_14 d hd Q k a1 a2 hk ha1 ha2   _ ih
/-- MendBench$Threads.addThread(ILMendBench$Text;I)V -/
def jm_162 (Q : Nat) (k : Nat) (a0 : Int) (a1 : Nat) (a2 : Int) (S : ev_St) : Option ((Unit) × ev_St) := ev_b (ev_pI S k 10 0) fun s1 => ev_bd (jm_164 Q k a0 0 s1) fun _ s2 => jl_162_14 Q k a1 a2  Q 0 s2
theorem jt_162 (d : Nat) (hd : 4 ≤ d) (Q : Nat) (k : Nat) (a0 : Int) (a1 : Nat) (a2 : Int) (hk : ev_isOb k 11 = true) (ha0 : ev_rng a0) (ha1 : a1 = 0 ∨ ev_isOb (a1 - 1) 10 = true) (ha2 : ev_rng a2) (S : ev_St) (x : Unit) (S' : ev_St) (hJ : jm_162 Q k a0 a1 a2 S = some (x, S')) : ev_Ref d 162 [.ref k, .int (Int32.ofInt a0), ev_nv a1, .int (Int32.ofInt a2)] S (ev_eU x) S' (ev_PU x) := by
  obtain ⟨d, rfl⟩ : ∃ e, d = e + 1 := ⟨d - 1, by omega⟩
  refine ev_ref_of (P := ev_PU) (lv := [(0, .ref k), (1, .int (Int32.ofInt a0)), (2, ev_nv a1), (3, .int (Int32.ofInt a2))]) (by decide +kernel) (by (try simp only [ev_sum, ev_nv_cat]); first | done | rfl) (by (try simp only [lv_args, ev_nv_cat]); first | done | rfl) ?_ x S' hJ
  unfold jm_162
  refine ev_r_aload_n (pc := 0) (k := 0) (v := .ref k) trivial (by decide +kernel) (by rfl) ?_
  refine ev_r_iconst (pc := 1) (k := 0) (by decide +kernel) ?_
  refine ev_r_putI (pc := 2) (y := 115) (ci := 11) (f := 10) (by decide) (by decide +kernel) (by decide +kernel) (by exact hk) rfl rfl ?_
  intro s1
  refine ev_r_aload_n (pc := 5) (k := 0) (v := .ref k) trivial (by decide +kernel) (by rfl) ?_
  refine ev_r_iload_n (pc := 6) (k := 1) (v := Int32.ofInt a0) (by decide +kernel) (by rfl) ?_
  refine ev_r_iconst (pc := 7) (k := 0) (by decide +kernel) ?_
  refine ev_r_virt (pc := 8) (y := 118) (mi := 164) (na := 2) (k := k) (as := [.int (Int32.ofInt a0), .int (Int32.ofInt 0)]) (rest := []) (encc := ev_oU) (Q := ev_PU) (fun x S1 h => jt_164 d (by omega) Q k a0 0 hk ha0 (by decide) s1 x S1 h) (by exact hk) (by decide +kernel) (by decide +kernel) (by decide +kernel) (by decide +kernel) rfl (by (try simp only [ev_sum, ev_nv_cat]); first | done | rfl) ?_
  intro _ s2 _
  show ev_w _ _ _ _ _ [] _ _ _ _
  refine ev_r_iconst (pc := 11) (k := 0) (by decide +kernel) ?_
  refine ev_r_istore (pc := 12) (k := 4) (by decide +kernel) (by decide +kernel) rfl ?_
  exact jlt_162_14 d hd Q k a1 a2 hk ha1 ha2   Q 0 (by decide) s2 _ (by exact (ev_l1 (by rfl) (by decide) (by decide))) (by exact (ev_l1 (by rfl) (by decide) (by decide))) (by exact (ev_lk_st1 (by rfl) (by decide) rfl)) (by exact ev_lk_st1_self)
def jb_160_36 (Q : Nat) (k : Nat) (a1 : Int)  (K36 : Int → ev_St → Option ((Unit) × ev_St)) (x5 : Int) (s10 : ev_St) : Option ((Unit) × ev_St) := ev_b (s10.1 k 15) fun x11 => if x11 ≤ x5 then (some ((), s10)) else (if 208 ≤ x5 then (some ((), s10)) else (ev_b (s10.2.2.1 k 2) fun r14 => ev_if (r14 ≠ 0) (ev_if ((0 : Int) ≤ x5 ∧ x5 < (ev_aln ((r14 - 1)) : Int)) (ev_b (s10.1 ((r14 - 1)) (Int.toNat x5)) fun x16 => ev_b (s10.2.2.1 k 11) fun r17 => ev_if (r17 ≠ 0) (ev_bd (jm_70 Q ((r17 - 1)) x16 s10) fun x20 s19 => ev_jn (fun  (s25 : ev_St) => ev_ck (x5 + 1) fun x26 => K36 x26 s25) fun K128 => if x20 = 0 then (K128  s19) else (ev_b (s19.2.2.1 k 11) fun r28 => ev_if (r28 ≠ 0) (ev_if ((0 : Int) ≤ x16 ∧ x16 < (ev_aln (((r28 - 1) + 1)) : Int)) (ev_b (s19.1 (((r28 - 1) + 1)) (Int.toNat x16)) fun x30 => if x30 ≠ 6 then (K128  s19) else (ev_b (ev_pI s19 k 14 1) fun s32 => ev_b (ev_pI s32 k 13 a1) fun s33 => ev_b (s33.2.2.1 k 4) fun r34 => ev_b (s33.1 k 0) fun x35 => ev_ck (x35 * x5) fun x36 => ev_b (s33.1 k 0) fun x37 => ev_if (r34 ≠ 0) (ev_if ((0 : Int) ≤ x36 ∧ (0 : Int) ≤ 0 ∧ (0 : Int) ≤ x37 ∧ x36 + x37 ≤ (ev_aln ((r34 - 1)) : Int) ∧ 0 + x37 ≤ (ev_aln ((k + 7)) : Int)) (ev_b (ev_cpI s33 ((r34 - 1)) ((k + 7)) (Int.toNat x36) (Int.toNat 0) (Int.toNat x37)) fun s38 => ev_b (ev_pI s38 k 15 x5) fun s40 => K128  s40)))))))))))
def jl_160_36 (Q : Nat) (k : Nat) (a1 : Int)  : Nat → Int → ev_St → Option ((Unit) × ev_St)
  | 0 => fun _ _ => none
  | q + 1 => jb_160_36 Q k a1  (jl_160_36 Q k a1  q)
theorem jbt_160_36 (d : Nat) (hd : 5 ≤ d + 1) (Q : Nat) (k : Nat) (a1 : Int) (hk : ev_isOb k 11 = true) (ha1 : ev_rng a1)   (K36 : Int → ev_St → Option ((Unit) × ev_St)) (hK36 : ∀ (x5 : Int) (hx5 : ev_rng x5), ∀ (s10 : ev_St) (w6 : List (Nat × Value)), ev_lk w6 0 = some (.ref k) → ev_lk w6 2 = some (.int (Int32.ofInt a1)) → ev_lk w6 4 = some (.int (Int32.ofInt x5)) → ev_w none (ev_Mof 160) d 36 w6 [] s10 (K36 x5 s10) ev_eU ev_PU) : ∀ (x5 : Int) (hx5 : ev_rng x5), ∀ (s10 : ev_St) (w6 : List (Nat × Value)), ev_lk w6 0 = some (.ref k) → ev_lk w6 2 = some (.int (Int32.ofInt a1)) → ev_lk w6 4 = some (.int (Int32.ofInt x5)) → ev_w none (ev_Mof 160) d 36 w6 [] s10 (jb_160_36 Q k a1  K36 x5 s10) ev_eU ev_PU := by
  intro x5 hx5 s10 w6 e7 e8 e9
  unfold jb_160_36
  refine ev_r_iload (pc := 36) (k := 4) (v := Int32.ofInt x5) (by decide +kernel) (by exact e9) ?_
  refine ev_r_aload_n (pc := 38) (k := 0) (v := .ref k) trivial (by decide +kernel) (by exact e7) ?_
  refine ev_r_getI (pc := 39) (y := 62) (ci := 11) (f := 15) (fin := 0) (by decide +kernel) (by decide +kernel) (by exact hk) rfl ?_
  intro x11 hx11
  refine ev_r_icmp (pc := 42) (q := .ge) (o := 92) (t := 134) (c := x11 ≤ x5) (by decide +kernel) (ev_k_ge hx5 hx11) (by decide +kernel) ?_ ?_
  · intro c12
    exact ev_r_return (pc := 134) (x := ()) trivial (by decide +kernel) (by decide +kernel) rfl
  · intro c12
    refine ev_r_iload (pc := 45) (k := 4) (v := Int32.ofInt x5) (by decide +kernel) (by exact e9) ?_
    refine ev_r_sipush (pc := 47) (k := 208) (by decide +kernel) (by decide +kernel) ?_
    refine ev_r_icmp (pc := 50) (q := .ge) (o := 84) (t := 134) (c := 208 ≤ x5) (by decide +kernel) (ev_k_ge hx5 (by decide)) (by decide +kernel) ?_ ?_
    · intro c13
      exact ev_r_return (pc := 134) (x := ()) trivial (by decide +kernel) (by decide +kernel) rfl
    · intro c13
      refine ev_r_aload_n (pc := 53) (k := 0) (v := .ref k) trivial (by decide +kernel) (by exact e7) ?_
      refine ev_r_getR (pc := 54) (y := 11) (ci := 11) (f := 2) (fin := 0) (t := 100) (by decide +kernel) (by decide +kernel) (by exact hk) rfl rfl ?_
      intro r14 hr14
      have hr14 : r14 = 0 ∨ ev_isAb (r14 - 1) 1 .int = true := hr14
      refine ev_r_iload (pc := 57) (k := 4) (v := Int32.ofInt x5) (by decide +kernel) (by exact e9) ?_
      refine ev_r_chk ?_
      intro c15
      refine ev_r_dr (r := r14) (fun v => [.int (Int32.ofInt x5), v]) c15 ?_
      refine ev_r_iald (pc := 59) hx5 (by decide +kernel) (by exact (hr14.resolve_left c15)) ?_
      intro x16 hx16
      refine ev_r_istore (pc := 60) (k := 5) (by decide +kernel) (by decide +kernel) rfl ?_
      refine ev_r_aload_n (pc := 62) (k := 0) (v := .ref k) trivial (by decide +kernel) (by exact (ev_l1 e7 (by decide) (by decide))) ?_
      refine ev_r_getR (pc := 63) (y := 67) (ci := 11) (f := 11) (fin := 0) (t := 6) (by decide +kernel) (by decide +kernel) (by exact hk) rfl rfl ?_
      intro r17 hr17
      have hr17 : r17 = 0 ∨ ev_isOb (r17 - 1) 6 = true := hr17
      refine ev_r_iload (pc := 66) (k := 5) (v := Int32.ofInt x16) (by decide +kernel) (by exact ev_lk_st1_self) ?_
      refine ev_r_chk ?_
      intro c18
      refine ev_r_dr (r := r17) (fun v => [.int (Int32.ofInt x16), v]) c18 ?_
      refine ev_r_virt (pc := 68) (y := 87) (mi := 70) (na := 1) (k := (r17 - 1)) (as := [.int (Int32.ofInt x16)]) (rest := []) (encc := ev_oI) (Q := ev_bl) (fun x S1 h => jt_70 d (by omega) Q ((r17 - 1)) x16 (hr17.resolve_left c18) hx16 s10 x S1 h) (by exact (hr17.resolve_left c18)) (by decide +kernel) (by decide +kernel) (by decide +kernel) (by decide +kernel) rfl (by (try simp only [ev_sum, ev_nv_cat]); first | done | rfl) ?_
      intro x20 s19 hx20
      replace hx20 := ev_bl_rng hx20
      show ev_w _ _ _ _ _ [.int (Int32.ofInt x20)] _ _ _ _
      refine ev_r_jn (Q := fun K => ∀ (s25 : ev_St) (w21 : List (Nat × Value)), ev_lk w21 0 = some (.ref k) → ev_lk w21 2 = some (.int (Int32.ofInt a1)) → ev_lk w21 4 = some (.int (Int32.ofInt x5)) → ev_w none (ev_Mof 160) d 128 w21 [] s25 (K  s25) ev_eU ev_PU) ?_ ?_
      · intro  s25 w21 e22 e23 e24
        refine ev_r_iinc (pc := 128) (k := 4) (c := 1) (x := x5) (by decide +kernel) (by decide +kernel) (by exact e24) (fun _ => rfl) ?_
        intro x26 hx26
        refine ev_r_goto (pc := 131) (o := (-95)) (t := 36) (by decide +kernel) (by decide +kernel) ?_
        exact hK36 x26 hx26 s25 _ (by exact (ev_l1 e22 (by decide) (by decide))) (by exact (ev_l1 e23 (by decide) (by decide))) (by exact ev_lk_st1_self)
      · intro K128 hK128
        refine ev_r_if (pc := 71) (q := .eq) (o := 57) (t := 128) (c := x20 = 0) (by decide +kernel) (ev_k_eq hx20 ev_rng0) (by decide +kernel) ?_ ?_
        · intro c27
          exact hK128  s19 _ (by exact (ev_l1 e7 (by decide) (by decide))) (by exact (ev_l1 e8 (by decide) (by decide))) (by exact (ev_lk_st1 e9 (by decide) rfl))
        · intro c27
          refine ev_r_aload_n (pc := 74) (k := 0) (v := .ref k) trivial (by decide +kernel) (by exact (ev_l1 e7 (by decide) (by decide))) ?_
          refine ev_r_getR (pc := 75) (y := 67) (ci := 11) (f := 11) (fin := 0) (t := 6) (by decide +kernel) (by decide +kernel) (by exact hk) rfl rfl ?_
          intro r28 hr28
          have hr28 : r28 = 0 ∨ ev_isOb (r28 - 1) 6 = true := hr28
          refine ev_r_chk ?_
          intro c29
          refine ev_r_dr (r := r28) (fun v => [v]) c29 ?_
          refine ev_r_getC (pc := 78) (y := 91) (ci := 6) (f := 0) (fin := 2) (k' := ((r28 - 1) + 1)) (by decide +kernel) (by decide +kernel) (by exact (hr28.resolve_left c29)) rfl rfl ?_
          refine ev_r_iload (pc := 81) (k := 5) (v := Int32.ofInt x16) (by decide +kernel) (by exact ev_lk_st1_self) ?_
          refine ev_r_iald (pc := 83) hx16 (by decide +kernel) (by exact (ev_fo_6_0 (hr28.resolve_left c29))) ?_
          intro x30 hx30
          refine ev_r_bipush (pc := 84) (k := 6) (by decide +kernel) (by decide +kernel) ?_
          refine ev_r_icmp (pc := 86) (q := .ne) (o := 42) (t := 128) (c := x30 ≠ 6) (by decide +kernel) (ev_k_ne hx30 (by decide)) (by decide +kernel) ?_ ?_
          · intro c31
            exact hK128  s19 _ (by exact (ev_l1 e7 (by decide) (by decide))) (by exact (ev_l1 e8 (by decide) (by decide))) (by exact (ev_lk_st1 e9 (by decide) rfl))
          · intro c31
            refine ev_r_aload_n (pc := 89) (k := 0) (v := .ref k) trivial (by decide +kernel) (by exact (ev_l1 e7 (by decide) (by decide))) ?_
            refine ev_r_iconst (pc := 90) (k := 1) (by decide +kernel) ?_
            refine ev_r_putI (pc := 91) (y := 58) (ci := 11) (f := 14) (by decide) (by decide +kernel) (by decide +kernel) (by exact hk) rfl (ev_fit_bl (by decide : ev_bl 1)) ?_
            intro s32
            refine ev_r_aload_n (pc := 94) (k := 0) (v := .ref k) trivial (by decide +kernel) (by exact (ev_l1 e7 (by decide) (by decide))) ?_
            refine ev_r_iload_n (pc := 95) (k := 2) (v := Int32.ofInt a1) (by decide +kernel) (by exact (ev_l1 e8 (by decide) (by decide))) ?_
            refine ev_r_putI (pc := 96) (y := 74) (ci := 11) (f := 13) ha1 (by decide +kernel) (by decide +kernel) (by exact hk) rfl rfl ?_
            intro s33
            refine ev_r_aload_n (pc := 99) (k := 0) (v := .ref k) trivial (by decide +kernel) (by exact (ev_l1 e7 (by decide) (by decide))) ?_
            refine ev_r_getR (pc := 100) (y := 39) (ci := 11) (f := 4) (fin := 0) (t := 100) (by decide +kernel) (by decide +kernel) (by exact hk) rfl rfl ?_
            intro r34 hr34
            have hr34 : r34 = 0 ∨ ev_isAb (r34 - 1) 1 .int = true := hr34
            refine ev_r_aload_n (pc := 103) (k := 0) (v := .ref k) trivial (by decide +kernel) (by exact (ev_l1 e7 (by decide) (by decide))) ?_
            refine ev_r_getI (pc := 104) (y := 29) (ci := 11) (f := 0) (fin := 1) (by decide +kernel) (by decide +kernel) (by exact hk) rfl ?_
            intro x35 hx35
            refine ev_r_iload (pc := 107) (k := 4) (v := Int32.ofInt x5) (by decide +kernel) (by exact (ev_lk_st1 e9 (by decide) rfl)) ?_
            refine ev_r_imul (pc := 109) (by decide +kernel) ?_
            intro x36 hx36
            refine ev_r_aload_n (pc := 110) (k := 0) (v := .ref k) trivial (by decide +kernel) (by exact (ev_l1 e7 (by decide) (by decide))) ?_
            refine ev_r_getC (pc := 111) (y := 36) (ci := 11) (f := 12) (fin := 1) (k' := (k + 7)) (by decide +kernel) (by decide +kernel) (by exact hk) rfl rfl ?_
            refine ev_r_iconst (pc := 114) (k := 0) (by decide +kernel) ?_
            refine ev_r_aload_n (pc := 115) (k := 0) (v := .ref k) trivial (by decide +kernel) (by exact (ev_l1 e7 (by decide) (by decide))) ?_
            refine ev_r_getI (pc := 116) (y := 29) (ci := 11) (f := 0) (fin := 1) (by decide +kernel) (by decide +kernel) (by exact hk) rfl ?_
            intro x37 hx37
            refine ev_r_chk ?_
            intro c39
            refine ev_r_dr (r := r34) (fun v => [.int (Int32.ofInt x37), .int (Int32.ofInt 0), .ref ((k + 7)), .int (Int32.ofInt x36), v]) c39 ?_
            refine ev_r_copyI (pc := 119) (y := 94) ⟨hx36, (by decide), hx37⟩ (by decide +kernel) (by decide +kernel) (by (try simp only [ev_sum, ev_nv_cat]); first | done | rfl) (by exact (hr34.resolve_left c39)) (by exact (ev_fo_11_12 hk)) ?_
            intro s38
            refine ev_r_aload_n (pc := 122) (k := 0) (v := .ref k) trivial (by decide +kernel) (by exact (ev_l1 e7 (by decide) (by decide))) ?_
            refine ev_r_iload (pc := 123) (k := 4) (v := Int32.ofInt x5) (by decide +kernel) (by exact (ev_lk_st1 e9 (by decide) rfl)) ?_
            refine ev_r_putI (pc := 125) (y := 62) (ci := 11) (f := 15) hx5 (by decide +kernel) (by decide +kernel) (by exact hk) rfl rfl ?_
            intro s40
            exact hK128  s40 _ (by exact (ev_l1 e7 (by decide) (by decide))) (by exact (ev_l1 e8 (by decide) (by decide))) (by exact (ev_lk_st1 e9 (by decide) rfl))
theorem jlt_160_36 (d : Nat) (hd : 5 ≤ d + 1) (Q : Nat) (k : Nat) (a1 : Int) (hk : ev_isOb k 11 = true) (ha1 : ev_rng a1)   : ∀ q : Nat, ∀ (x5 : Int) (hx5 : ev_rng x5), ∀ (s10 : ev_St) (w6 : List (Nat × Value)), ev_lk w6 0 = some (.ref k) → ev_lk w6 2 = some (.int (Int32.ofInt a1)) → ev_lk w6 4 = some (.int (Int32.ofInt x5)) → ev_w none (ev_Mof 160) d 36 w6 [] s10 (jl_160_36 Q k a1  q x5 s10) ev_eU ev_PU := by
  intro q
  induction q with
  | zero =>
    intro x5 hx5 s10 w6 e7 e8 e9
    exact ev_w_none
  | succ q ih => exact jbt_160_36 d hd Q k a1 hk ha1   _ ih
/-- MendBench$Threads.settle(LMendBench$Text;IZ)V -/
def jm_160 (Q : Nat) (k : Nat) (a0 : Nat) (a1 : Int) (a2 : Int) (S : ev_St) : Option ((Unit) × ev_St) := ev_jn (fun  (s4 : ev_St) => jl_160_36 Q k a1  Q 0 s4) fun K33 => if a2 = 0 then (K33  S) else (ev_b (S.1 k 14) fun x42 => if x42 ≠ 0 then (K33  S) else (ev_bd (jm_363 Q (((k + 6) + 1)) ((-1)) S) fun _ s44 => ev_if ((0 : Int) ≤ 0 ∧ 0 < (ev_aln ((k + 6)) : Int)) (ev_b (ev_pI s44 ((k + 6)) (Int.toNat 0) a1) fun s45 => ev_bd (jm_162 Q k 0 a0 a1 s45) fun _ s46 => K33  s46)))
theorem jt_160 (d : Nat) (hd : 5 ≤ d) (Q : Nat) (k : Nat) (a0 : Nat) (a1 : Int) (a2 : Int) (hk : ev_isOb k 11 = true) (ha0 : a0 = 0 ∨ ev_isOb (a0 - 1) 10 = true) (ha1 : ev_rng a1) (ha2 : ev_rng a2) (S : ev_St) (x : Unit) (S' : ev_St) (hJ : jm_160 Q k a0 a1 a2 S = some (x, S')) : ev_Ref d 160 [.ref k, ev_nv a0, .int (Int32.ofInt a1), .int (Int32.ofInt a2)] S (ev_eU x) S' (ev_PU x) := by
  obtain ⟨d, rfl⟩ : ∃ e, d = e + 1 := ⟨d - 1, by omega⟩
  refine ev_ref_of (P := ev_PU) (lv := [(0, .ref k), (1, ev_nv a0), (2, .int (Int32.ofInt a1)), (3, .int (Int32.ofInt a2))]) (by decide +kernel) (by (try simp only [ev_sum, ev_nv_cat]); first | done | rfl) (by (try simp only [lv_args, ev_nv_cat]); first | done | rfl) ?_ x S' hJ
  unfold jm_160
  refine ev_r_iload_n (pc := 0) (k := 3) (v := Int32.ofInt a2) (by decide +kernel) (by rfl) ?_
  refine ev_r_jn (Q := fun K => ∀ (s4 : ev_St) (w1 : List (Nat × Value)), ev_lk w1 0 = some (.ref k) → ev_lk w1 2 = some (.int (Int32.ofInt a1)) → ev_w none (ev_Mof 160) d 33 w1 [] s4 (K  s4) ev_eU ev_PU) ?_ ?_
  · intro  s4 w1 e2 e3
    refine ev_r_iconst (pc := 33) (k := 0) (by decide +kernel) ?_
    refine ev_r_istore (pc := 34) (k := 4) (by decide +kernel) (by decide +kernel) rfl ?_
    exact jlt_160_36 d hd Q k a1 hk ha1   Q 0 (by decide) s4 _ (by exact (ev_l1 e2 (by decide) (by decide))) (by exact (ev_l1 e3 (by decide) (by decide))) (by exact ev_lk_st1_self)
  · intro K33 hK33
    refine ev_r_if (pc := 1) (q := .eq) (o := 32) (t := 33) (c := a2 = 0) (by decide +kernel) (ev_k_eq ha2 ev_rng0) (by decide +kernel) ?_ ?_
    · intro c41
      exact hK33  S _ (by rfl) (by rfl)
    · intro c41
      refine ev_r_aload_n (pc := 4) (k := 0) (v := .ref k) trivial (by decide +kernel) (by rfl) ?_
      refine ev_r_getI (pc := 5) (y := 58) (ci := 11) (f := 14) (fin := 0) (by decide +kernel) (by decide +kernel) (by exact hk) rfl ?_
      intro x42 hx42
      refine ev_r_if (pc := 8) (q := .ne) (o := 25) (t := 33) (c := x42 ≠ 0) (by decide +kernel) (ev_k_ne hx42 ev_rng0) (by decide +kernel) ?_ ?_
      · intro c43
        exact hK33  S _ (by rfl) (by rfl)
      · intro c43
        refine ev_r_aload_n (pc := 11) (k := 0) (v := .ref k) trivial (by decide +kernel) (by rfl) ?_
        refine ev_r_getC (pc := 12) (y := 33) (ci := 11) (f := 1) (fin := 1) (k' := (k + 6)) (by decide +kernel) (by decide +kernel) (by exact hk) rfl rfl ?_
        refine ev_r_iconst (pc := 15) (k := -1) (by decide +kernel) ?_
        refine ev_r_stat (pc := 16) (y := 77) (kind := 2) (mi := 363) (na := 2) (as := [ev_nv (((k + 6) + 1)), .int (Int32.ofInt ((-1)))]) (rest := []) (encc := ev_oU) (Q := ev_PU) (fun x S1 h => jt_363 d (by omega) Q (((k + 6) + 1)) ((-1)) (by exact (Or.inr (ev_fo_11_1 hk))) (by decide) S x S1 h) (Or.inl rfl) (by decide +kernel) (by decide +kernel) (by decide +kernel) (by decide +kernel) rfl (by (try simp only [ev_sum, ev_nv_cat]); first | done | rfl) ?_
        intro _ s44 _
        show ev_w _ _ _ _ _ [] _ _ _ _
        refine ev_r_aload_n (pc := 19) (k := 0) (v := .ref k) trivial (by decide +kernel) (by rfl) ?_
        refine ev_r_getC (pc := 20) (y := 33) (ci := 11) (f := 1) (fin := 1) (k' := (k + 6)) (by decide +kernel) (by decide +kernel) (by exact hk) rfl rfl ?_
        refine ev_r_iconst (pc := 23) (k := 0) (by decide +kernel) ?_
        refine ev_r_iload_n (pc := 24) (k := 2) (v := Int32.ofInt a1) (by decide +kernel) (by rfl) ?_
        refine ev_r_iast (pc := 25) ha1 (by decide) (by decide +kernel) (by exact (ev_fo_11_1 hk)) ?_
        intro s45
        refine ev_r_aload_n (pc := 26) (k := 0) (v := .ref k) trivial (by decide +kernel) (by rfl) ?_
        refine ev_r_iconst (pc := 27) (k := 0) (by decide +kernel) ?_
        refine ev_r_aload_n (pc := 28) (k := 1) (v := ev_nv a0) (ev_isR_nv _) (by decide +kernel) (by rfl) ?_
        refine ev_r_iload_n (pc := 29) (k := 2) (v := Int32.ofInt a1) (by decide +kernel) (by rfl) ?_
        refine ev_r_virt (pc := 30) (y := 83) (mi := 162) (na := 3) (k := k) (as := [.int (Int32.ofInt 0), ev_nv a0, .int (Int32.ofInt a1)]) (rest := []) (encc := ev_oU) (Q := ev_PU) (fun x S1 h => jt_162 d (by omega) Q k 0 a0 a1 hk (by decide) (by exact ha0) ha1 s45 x S1 h) (by exact hk) (by decide +kernel) (by decide +kernel) (by decide +kernel) (by decide +kernel) rfl (by (try simp only [ev_sum, ev_nv_cat]); first | done | rfl) ?_
        intro _ s46 _
        show ev_w _ _ _ _ _ [] _ _ _ _
        exact hK33  s46 _ (by rfl) (by rfl)
/-- MendBench$Stream.begin(LMendBench$Program;Z)V -/
def jm_147 (Q : Nat) (k : Nat) (a0 : Nat) (a1 : Int) (S : ev_St) : Option ((Unit) × ev_St) := ev_if (ev_bl a1) (ev_b (ev_pI S k 2 a1) fun s1 => ev_bd (jm_158 Q ((k + 3)) a0 s1) fun _ s3 => ev_bd (jm_160 Q ((k + 3)) (((k + 1) + 1)) 0 1 s3) fun _ s4 => some ((), s4))
theorem jt_147 (d : Nat) (hd : 6 ≤ d) (Q : Nat) (k : Nat) (a0 : Nat) (a1 : Int) (hk : ev_isOb k 9 = true) (ha0 : a0 = 0 ∨ ev_isOb (a0 - 1) 6 = true) (ha1 : ev_rng a1) (S : ev_St) (x : Unit) (S' : ev_St) (hJ : jm_147 Q k a0 a1 S = some (x, S')) : ev_Ref d 147 [.ref k, ev_nv a0, .int (Int32.ofInt a1)] S (ev_eU x) S' (ev_PU x) := by
  obtain ⟨d, rfl⟩ : ∃ e, d = e + 1 := ⟨d - 1, by omega⟩
  refine ev_ref_of (P := ev_PU) (lv := [(0, .ref k), (1, ev_nv a0), (2, .int (Int32.ofInt a1))]) (by decide +kernel) (by (try simp only [ev_sum, ev_nv_cat]); first | done | rfl) (by (try simp only [lv_args, ev_nv_cat]); first | done | rfl) ?_ x S' hJ
  unfold jm_147
  refine ev_r_aload_n (pc := 0) (k := 0) (v := .ref k) trivial (by decide +kernel) (by rfl) ?_
  refine ev_r_iload_n (pc := 1) (k := 2) (v := Int32.ofInt a1) (by decide +kernel) (by rfl) ?_
  refine ev_r_chk ?_
  intro c2
  refine ev_r_putI (pc := 2) (y := 27) (ci := 9) (f := 2) ha1 (by decide +kernel) (by decide +kernel) (by exact hk) rfl (ev_fit_bl c2) ?_
  intro s1
  refine ev_r_aload_n (pc := 5) (k := 0) (v := .ref k) trivial (by decide +kernel) (by rfl) ?_
  refine ev_r_getC (pc := 6) (y := 23) (ci := 9) (f := 1) (fin := 1) (k' := (k + 3)) (by decide +kernel) (by decide +kernel) (by exact hk) rfl rfl ?_
  refine ev_r_aload_n (pc := 9) (k := 1) (v := ev_nv a0) (ev_isR_nv _) (by decide +kernel) (by rfl) ?_
  refine ev_r_virt (pc := 10) (y := 31) (mi := 158) (na := 1) (k := (k + 3)) (as := [ev_nv a0]) (rest := []) (encc := ev_oU) (Q := ev_PU) (fun x S1 h => jt_158 d (by omega) Q ((k + 3)) a0 (ev_fo_9_1 hk) (by exact ha0) s1 x S1 h) (by exact (ev_fo_9_1 hk)) (by decide +kernel) (by decide +kernel) (by decide +kernel) (by decide +kernel) rfl (by (try simp only [ev_sum, ev_nv_cat]); first | done | rfl) ?_
  intro _ s3 _
  show ev_w _ _ _ _ _ [] _ _ _ _
  refine ev_r_aload_n (pc := 13) (k := 0) (v := .ref k) trivial (by decide +kernel) (by rfl) ?_
  refine ev_r_getC (pc := 14) (y := 23) (ci := 9) (f := 1) (fin := 1) (k' := (k + 3)) (by decide +kernel) (by decide +kernel) (by exact hk) rfl rfl ?_
  refine ev_r_aload_n (pc := 17) (k := 0) (v := .ref k) trivial (by decide +kernel) (by rfl) ?_
  refine ev_r_getC (pc := 18) (y := 12) (ci := 9) (f := 0) (fin := 1) (k' := (k + 1)) (by decide +kernel) (by decide +kernel) (by exact hk) rfl rfl ?_
  refine ev_r_iconst (pc := 21) (k := 0) (by decide +kernel) ?_
  refine ev_r_iconst (pc := 22) (k := 1) (by decide +kernel) ?_
  refine ev_r_virt (pc := 23) (y := 35) (mi := 160) (na := 3) (k := (k + 3)) (as := [ev_nv (((k + 1) + 1)), .int (Int32.ofInt 0), .int (Int32.ofInt 1)]) (rest := []) (encc := ev_oU) (Q := ev_PU) (fun x S1 h => jt_160 d (by omega) Q ((k + 3)) (((k + 1) + 1)) 0 1 (ev_fo_9_1 hk) (by exact (Or.inr (ev_fo_9_0 hk))) (by decide) (by decide) s3 x S1 h) (by exact (ev_fo_9_1 hk)) (by decide +kernel) (by decide +kernel) (by decide +kernel) (by decide +kernel) rfl (by (try simp only [ev_sum, ev_nv_cat]); first | done | rfl) ?_
  intro _ s4 _
  show ev_w _ _ _ _ _ [] _ _ _ _
  exact ev_r_return (pc := 26) (x := ()) trivial (by decide +kernel) (by decide +kernel) rfl
def jb_161_70 (Q : Nat) (k : Nat) (a0 : Nat) (a1 : Int)  (K70 : Int → Nat → Nat → Int → Int → ev_St → Option ((Unit) × ev_St)) (x17 : Int) (r18 : Nat) (r19 : Nat) (x20 : Int) (x21 : Int) (s31 : ev_St) : Option ((Unit) × ev_St) := if x17 ≤ x21 then (some ((), s31)) else (if 208 ≤ x21 then (some ((), s31)) else (ev_if (r18 ≠ 0) (ev_if ((0 : Int) ≤ x21 ∧ x21 < (ev_aln ((r18 - 1)) : Int)) (ev_b (s31.1 ((r18 - 1)) (Int.toNat x21)) fun x35 => ev_b (s31.2.2.1 k 11) fun r36 => ev_if (r36 ≠ 0) (ev_bd (jm_70 Q ((r36 - 1)) x35 s31) fun x39 s38 => ev_jn (fun  (s49 : ev_St) => ev_ck (x21 + 1) fun x50 => K70 x17 r18 r19 x20 x50 s49) fun K164 => if x39 = 0 then (K164  s38) else (ev_b (s38.2.2.1 k 11) fun r52 => ev_if (r52 ≠ 0) (ev_if ((0 : Int) ≤ x35 ∧ x35 < (ev_aln (((r52 - 1) + 3)) : Int)) (ev_b (s38.2.1 (((r52 - 1) + 3)) (Int.toNat x35)) fun y54 => ev_b (s38.2.2.1 k 11) fun r55 => ev_if (r55 ≠ 0) (ev_if ((0 : Int) ≤ x35 ∧ x35 < (ev_aln (((r55 - 1) + 4)) : Int)) (ev_b (s38.2.1 (((r55 - 1) + 4)) (Int.toNat x35)) fun y57 => ev_bd (jm_214 Q y54 y57 x20 s38) fun x59 s58 => if x59 = 0 then (K164  s58) else (ev_b (s58.1 k 0) fun x61 => ev_ck (x61 * x21) fun x62 => ev_b (s58.1 k 0) fun x63 => ev_if (r19 ≠ 0) (ev_if ((0 : Int) ≤ x62 ∧ (0 : Int) ≤ 0 ∧ (0 : Int) ≤ x63 ∧ x62 + x63 ≤ (ev_aln ((r19 - 1)) : Int) ∧ 0 + x63 ≤ (ev_aln ((k + 6)) : Int)) (ev_b (ev_cpI s58 ((r19 - 1)) ((k + 6)) (Int.toNat x62) (Int.toNat 0) (Int.toNat x63)) fun s64 => ev_ck (x35 + 1) fun x66 => ev_ck (a1 + 1) fun x67 => ev_bd (jm_162 Q k x66 a0 x67 s64) fun _ s68 => K164  s68)))))))))))))
def jl_161_70 (Q : Nat) (k : Nat) (a0 : Nat) (a1 : Int)  : Nat → Int → Nat → Nat → Int → Int → ev_St → Option ((Unit) × ev_St)
  | 0 => fun _ _ _ _ _ _ => none
  | q + 1 => jb_161_70 Q k a0 a1  (jl_161_70 Q k a0 a1  q)
theorem jbt_161_70 (d : Nat) (hd : 5 ≤ d + 1) (Q : Nat) (k : Nat) (a0 : Nat) (a1 : Int) (hk : ev_isOb k 11 = true) (ha0 : a0 = 0 ∨ ev_isOb (a0 - 1) 10 = true) (ha1 : ev_rng a1)   (K70 : Int → Nat → Nat → Int → Int → ev_St → Option ((Unit) × ev_St)) (hK70 : ∀ (x17 : Int) (hx17 : ev_rng x17), ∀ (r18 : Nat) (hr18 : r18 = 0 ∨ ev_isAb (r18 - 1) 1 .int = true), ∀ (r19 : Nat) (hr19 : r19 = 0 ∨ ev_isAb (r19 - 1) 1 .int = true), ∀ (x20 : Int) (hx20 : ev_rng x20), ∀ (x21 : Int) (hx21 : ev_rng x21), ∀ (s31 : ev_St) (w22 : List (Nat × Value)), ev_lk w22 0 = some (.ref k) → ev_lk w22 1 = some (ev_nv a0) → ev_lk w22 2 = some (.int (Int32.ofInt a1)) → ev_lk w22 3 = some (.int (Int32.ofInt x17)) → ev_lk w22 4 = some (ev_nv r18) → ev_lk w22 5 = some (ev_nv r19) → ev_lk w22 6 = some (.int (Int32.ofInt x20)) → ev_lk w22 7 = some (.int (Int32.ofInt x21)) → ev_w none (ev_Mof 161) d 70 w22 [] s31 (K70 x17 r18 r19 x20 x21 s31) ev_eU ev_PU) : ∀ (x17 : Int) (hx17 : ev_rng x17), ∀ (r18 : Nat) (hr18 : r18 = 0 ∨ ev_isAb (r18 - 1) 1 .int = true), ∀ (r19 : Nat) (hr19 : r19 = 0 ∨ ev_isAb (r19 - 1) 1 .int = true), ∀ (x20 : Int) (hx20 : ev_rng x20), ∀ (x21 : Int) (hx21 : ev_rng x21), ∀ (s31 : ev_St) (w22 : List (Nat × Value)), ev_lk w22 0 = some (.ref k) → ev_lk w22 1 = some (ev_nv a0) → ev_lk w22 2 = some (.int (Int32.ofInt a1)) → ev_lk w22 3 = some (.int (Int32.ofInt x17)) → ev_lk w22 4 = some (ev_nv r18) → ev_lk w22 5 = some (ev_nv r19) → ev_lk w22 6 = some (.int (Int32.ofInt x20)) → ev_lk w22 7 = some (.int (Int32.ofInt x21)) → ev_w none (ev_Mof 161) d 70 w22 [] s31 (jb_161_70 Q k a0 a1  K70 x17 r18 r19 x20 x21 s31) ev_eU ev_PU := by
  intro x17 hx17 r18 hr18 r19 hr19 x20 hx20 x21 hx21 s31 w22 e23 e24 e25 e26 e27 e28 e29 e30
  unfold jb_161_70
  refine ev_r_iload (pc := 70) (k := 7) (v := Int32.ofInt x21) (by decide +kernel) (by exact e30) ?_
  refine ev_r_iload_n (pc := 72) (k := 3) (v := Int32.ofInt x17) (by decide +kernel) (by exact e26) ?_
  refine ev_r_icmp (pc := 73) (q := .ge) (o := 97) (t := 170) (c := x17 ≤ x21) (by decide +kernel) (ev_k_ge hx21 hx17) (by decide +kernel) ?_ ?_
  · intro c32
    exact ev_r_return (pc := 170) (x := ()) trivial (by decide +kernel) (by decide +kernel) rfl
  · intro c32
    refine ev_r_iload (pc := 76) (k := 7) (v := Int32.ofInt x21) (by decide +kernel) (by exact e30) ?_
    refine ev_r_sipush (pc := 78) (k := 208) (by decide +kernel) (by decide +kernel) ?_
    refine ev_r_icmp (pc := 81) (q := .ge) (o := 89) (t := 170) (c := 208 ≤ x21) (by decide +kernel) (ev_k_ge hx21 (by decide)) (by decide +kernel) ?_ ?_
    · intro c33
      exact ev_r_return (pc := 170) (x := ()) trivial (by decide +kernel) (by decide +kernel) rfl
    · intro c33
      refine ev_r_aload (pc := 84) (k := 4) (v := ev_nv r18) (ev_isR_nv _) (by decide +kernel) (by exact e27) ?_
      refine ev_r_iload (pc := 86) (k := 7) (v := Int32.ofInt x21) (by decide +kernel) (by exact e30) ?_
      refine ev_r_chk ?_
      intro c34
      refine ev_r_dr (r := r18) (fun v => [.int (Int32.ofInt x21), v]) c34 ?_
      refine ev_r_iald (pc := 88) hx21 (by decide +kernel) (by exact (hr18.resolve_left c34)) ?_
      intro x35 hx35
      refine ev_r_istore (pc := 89) (k := 8) (by decide +kernel) (by decide +kernel) rfl ?_
      refine ev_r_aload_n (pc := 91) (k := 0) (v := .ref k) trivial (by decide +kernel) (by exact (ev_l1 e23 (by decide) (by decide))) ?_
      refine ev_r_getR (pc := 92) (y := 67) (ci := 11) (f := 11) (fin := 0) (t := 6) (by decide +kernel) (by decide +kernel) (by exact hk) rfl rfl ?_
      intro r36 hr36
      have hr36 : r36 = 0 ∨ ev_isOb (r36 - 1) 6 = true := hr36
      refine ev_r_iload (pc := 95) (k := 8) (v := Int32.ofInt x35) (by decide +kernel) (by exact ev_lk_st1_self) ?_
      refine ev_r_chk ?_
      intro c37
      refine ev_r_dr (r := r36) (fun v => [.int (Int32.ofInt x35), v]) c37 ?_
      refine ev_r_virt (pc := 97) (y := 87) (mi := 70) (na := 1) (k := (r36 - 1)) (as := [.int (Int32.ofInt x35)]) (rest := []) (encc := ev_oI) (Q := ev_bl) (fun x S1 h => jt_70 d (by omega) Q ((r36 - 1)) x35 (hr36.resolve_left c37) hx35 s31 x S1 h) (by exact (hr36.resolve_left c37)) (by decide +kernel) (by decide +kernel) (by decide +kernel) (by decide +kernel) rfl (by (try simp only [ev_sum, ev_nv_cat]); first | done | rfl) ?_
      intro x39 s38 hx39
      replace hx39 := ev_bl_rng hx39
      show ev_w _ _ _ _ _ [.int (Int32.ofInt x39)] _ _ _ _
      refine ev_r_jn (Q := fun K => ∀ (s49 : ev_St) (w40 : List (Nat × Value)), ev_lk w40 0 = some (.ref k) → ev_lk w40 1 = some (ev_nv a0) → ev_lk w40 2 = some (.int (Int32.ofInt a1)) → ev_lk w40 3 = some (.int (Int32.ofInt x17)) → ev_lk w40 4 = some (ev_nv r18) → ev_lk w40 5 = some (ev_nv r19) → ev_lk w40 6 = some (.int (Int32.ofInt x20)) → ev_lk w40 7 = some (.int (Int32.ofInt x21)) → ev_w none (ev_Mof 161) d 164 w40 [] s49 (K  s49) ev_eU ev_PU) ?_ ?_
      · intro  s49 w40 e41 e42 e43 e44 e45 e46 e47 e48
        refine ev_r_iinc (pc := 164) (k := 7) (c := 1) (x := x21) (by decide +kernel) (by decide +kernel) (by exact e48) (fun _ => rfl) ?_
        intro x50 hx50
        refine ev_r_goto (pc := 167) (o := (-97)) (t := 70) (by decide +kernel) (by decide +kernel) ?_
        exact hK70 x17 hx17 r18 hr18 r19 hr19 x20 hx20 x50 hx50 s49 _ (by exact (ev_l1 e41 (by decide) (by decide))) (by exact (ev_l1 e42 (by decide) (by decide))) (by exact (ev_l1 e43 (by decide) (by decide))) (by exact (ev_l1 e44 (by decide) (by decide))) (by exact (ev_l1 e45 (by decide) (by decide))) (by exact (ev_l1 e46 (by decide) (by decide))) (by exact (ev_lk_st1 e47 (by decide) rfl)) (by exact ev_lk_st1_self)
      · intro K164 hK164
        refine ev_r_if (pc := 100) (q := .eq) (o := 64) (t := 164) (c := x39 = 0) (by decide +kernel) (ev_k_eq hx39 ev_rng0) (by decide +kernel) ?_ ?_
        · intro c51
          exact hK164  s38 _ (by exact (ev_l1 e23 (by decide) (by decide))) (by exact (ev_l1 e24 (by decide) (by decide))) (by exact (ev_l1 e25 (by decide) (by decide))) (by exact (ev_l1 e26 (by decide) (by decide))) (by exact (ev_l1 e27 (by decide) (by decide))) (by exact (ev_l1 e28 (by decide) (by decide))) (by exact (ev_l1 e29 (by decide) (by decide))) (by exact (ev_lk_st1 e30 (by decide) rfl))
        · intro c51
          refine ev_r_aload_n (pc := 103) (k := 0) (v := .ref k) trivial (by decide +kernel) (by exact (ev_l1 e23 (by decide) (by decide))) ?_
          refine ev_r_getR (pc := 104) (y := 67) (ci := 11) (f := 11) (fin := 0) (t := 6) (by decide +kernel) (by decide +kernel) (by exact hk) rfl rfl ?_
          intro r52 hr52
          have hr52 : r52 = 0 ∨ ev_isOb (r52 - 1) 6 = true := hr52
          refine ev_r_chk ?_
          intro c53
          refine ev_r_dr (r := r52) (fun v => [v]) c53 ?_
          refine ev_r_getC (pc := 107) (y := 104) (ci := 6) (f := 2) (fin := 2) (k' := ((r52 - 1) + 3)) (by decide +kernel) (by decide +kernel) (by exact (hr52.resolve_left c53)) rfl rfl ?_
          refine ev_r_iload (pc := 110) (k := 8) (v := Int32.ofInt x35) (by decide +kernel) (by exact ev_lk_st1_self) ?_
          refine ev_r_lald (pc := 112) hx35 (by decide +kernel) (by exact (ev_fo_6_2 (hr52.resolve_left c53))) ?_
          intro y54
          refine ev_r_aload_n (pc := 113) (k := 0) (v := .ref k) trivial (by decide +kernel) (by exact (ev_l1 e23 (by decide) (by decide))) ?_
          refine ev_r_getR (pc := 114) (y := 67) (ci := 11) (f := 11) (fin := 0) (t := 6) (by decide +kernel) (by decide +kernel) (by exact hk) rfl rfl ?_
          intro r55 hr55
          have hr55 : r55 = 0 ∨ ev_isOb (r55 - 1) 6 = true := hr55
          refine ev_r_chk ?_
          intro c56
          refine ev_r_dr (r := r55) (fun v => [v, .long y54]) c56 ?_
          refine ev_r_getC (pc := 117) (y := 108) (ci := 6) (f := 3) (fin := 2) (k' := ((r55 - 1) + 4)) (by decide +kernel) (by decide +kernel) (by exact (hr55.resolve_left c56)) rfl rfl ?_
          refine ev_r_iload (pc := 120) (k := 8) (v := Int32.ofInt x35) (by decide +kernel) (by exact ev_lk_st1_self) ?_
          refine ev_r_lald (pc := 122) hx35 (by decide +kernel) (by exact (ev_fo_6_3 (hr55.resolve_left c56))) ?_
          intro y57
          refine ev_r_iload (pc := 123) (k := 6) (v := Int32.ofInt x20) (by decide +kernel) (by exact (ev_l1 e29 (by decide) (by decide))) ?_
          refine ev_r_stat (pc := 125) (y := 111) (kind := 5) (mi := 214) (na := 3) (as := [.long y54, .long y57, .int (Int32.ofInt x20)]) (rest := []) (encc := ev_oI) (Q := ev_bl) (fun x S1 h => jt_214 d (by omega) Q y54 y57 x20 hx20 s38 x S1 h) (Or.inr (Or.inl rfl)) (by decide +kernel) (by decide +kernel) (by decide +kernel) (by decide +kernel) rfl (by (try simp only [ev_sum, ev_nv_cat]); first | done | rfl) ?_
          intro x59 s58 hx59
          replace hx59 := ev_bl_rng hx59
          show ev_w _ _ _ _ _ [.int (Int32.ofInt x59)] _ _ _ _
          refine ev_r_if (pc := 128) (q := .eq) (o := 36) (t := 164) (c := x59 = 0) (by decide +kernel) (ev_k_eq hx59 ev_rng0) (by decide +kernel) ?_ ?_
          · intro c60
            exact hK164  s58 _ (by exact (ev_l1 e23 (by decide) (by decide))) (by exact (ev_l1 e24 (by decide) (by decide))) (by exact (ev_l1 e25 (by decide) (by decide))) (by exact (ev_l1 e26 (by decide) (by decide))) (by exact (ev_l1 e27 (by decide) (by decide))) (by exact (ev_l1 e28 (by decide) (by decide))) (by exact (ev_l1 e29 (by decide) (by decide))) (by exact (ev_lk_st1 e30 (by decide) rfl))
          · intro c60
            refine ev_r_aload (pc := 131) (k := 5) (v := ev_nv r19) (ev_isR_nv _) (by decide +kernel) (by exact (ev_l1 e28 (by decide) (by decide))) ?_
            refine ev_r_aload_n (pc := 133) (k := 0) (v := .ref k) trivial (by decide +kernel) (by exact (ev_l1 e23 (by decide) (by decide))) ?_
            refine ev_r_getI (pc := 134) (y := 29) (ci := 11) (f := 0) (fin := 1) (by decide +kernel) (by decide +kernel) (by exact hk) rfl ?_
            intro x61 hx61
            refine ev_r_iload (pc := 137) (k := 7) (v := Int32.ofInt x21) (by decide +kernel) (by exact (ev_lk_st1 e30 (by decide) rfl)) ?_
            refine ev_r_imul (pc := 139) (by decide +kernel) ?_
            intro x62 hx62
            refine ev_r_aload_n (pc := 140) (k := 0) (v := .ref k) trivial (by decide +kernel) (by exact (ev_l1 e23 (by decide) (by decide))) ?_
            refine ev_r_getC (pc := 141) (y := 33) (ci := 11) (f := 1) (fin := 1) (k' := (k + 6)) (by decide +kernel) (by decide +kernel) (by exact hk) rfl rfl ?_
            refine ev_r_iconst (pc := 144) (k := 0) (by decide +kernel) ?_
            refine ev_r_aload_n (pc := 145) (k := 0) (v := .ref k) trivial (by decide +kernel) (by exact (ev_l1 e23 (by decide) (by decide))) ?_
            refine ev_r_getI (pc := 146) (y := 29) (ci := 11) (f := 0) (fin := 1) (by decide +kernel) (by decide +kernel) (by exact hk) rfl ?_
            intro x63 hx63
            refine ev_r_chk ?_
            intro c65
            refine ev_r_dr (r := r19) (fun v => [.int (Int32.ofInt x63), .int (Int32.ofInt 0), .ref ((k + 6)), .int (Int32.ofInt x62), v]) c65 ?_
            refine ev_r_copyI (pc := 149) (y := 94) ⟨hx62, (by decide), hx63⟩ (by decide +kernel) (by decide +kernel) (by (try simp only [ev_sum, ev_nv_cat]); first | done | rfl) (by exact (hr19.resolve_left c65)) (by exact (ev_fo_11_1 hk)) ?_
            intro s64
            refine ev_r_aload_n (pc := 152) (k := 0) (v := .ref k) trivial (by decide +kernel) (by exact (ev_l1 e23 (by decide) (by decide))) ?_
            refine ev_r_iload (pc := 153) (k := 8) (v := Int32.ofInt x35) (by decide +kernel) (by exact ev_lk_st1_self) ?_
            refine ev_r_iconst (pc := 155) (k := 1) (by decide +kernel) ?_
            refine ev_r_iadd (pc := 156) (by decide +kernel) ?_
            intro x66 hx66
            refine ev_r_aload_n (pc := 157) (k := 1) (v := ev_nv a0) (ev_isR_nv _) (by decide +kernel) (by exact (ev_l1 e24 (by decide) (by decide))) ?_
            refine ev_r_iload_n (pc := 158) (k := 2) (v := Int32.ofInt a1) (by decide +kernel) (by exact (ev_l1 e25 (by decide) (by decide))) ?_
            refine ev_r_iconst (pc := 159) (k := 1) (by decide +kernel) ?_
            refine ev_r_iadd (pc := 160) (by decide +kernel) ?_
            intro x67 hx67
            refine ev_r_virt (pc := 161) (y := 83) (mi := 162) (na := 3) (k := k) (as := [.int (Int32.ofInt x66), ev_nv a0, .int (Int32.ofInt x67)]) (rest := []) (encc := ev_oU) (Q := ev_PU) (fun x S1 h => jt_162 d (by omega) Q k x66 a0 x67 hk hx66 (by exact ha0) hx67 s64 x S1 h) (by exact hk) (by decide +kernel) (by decide +kernel) (by decide +kernel) (by decide +kernel) rfl (by (try simp only [ev_sum, ev_nv_cat]); first | done | rfl) ?_
            intro _ s68 _
            show ev_w _ _ _ _ _ [] _ _ _ _
            exact hK164  s68 _ (by exact (ev_l1 e23 (by decide) (by decide))) (by exact (ev_l1 e24 (by decide) (by decide))) (by exact (ev_l1 e25 (by decide) (by decide))) (by exact (ev_l1 e26 (by decide) (by decide))) (by exact (ev_l1 e27 (by decide) (by decide))) (by exact (ev_l1 e28 (by decide) (by decide))) (by exact (ev_l1 e29 (by decide) (by decide))) (by exact (ev_lk_st1 e30 (by decide) rfl))
theorem jlt_161_70 (d : Nat) (hd : 5 ≤ d + 1) (Q : Nat) (k : Nat) (a0 : Nat) (a1 : Int) (hk : ev_isOb k 11 = true) (ha0 : a0 = 0 ∨ ev_isOb (a0 - 1) 10 = true) (ha1 : ev_rng a1)   : ∀ q : Nat, ∀ (x17 : Int) (hx17 : ev_rng x17), ∀ (r18 : Nat) (hr18 : r18 = 0 ∨ ev_isAb (r18 - 1) 1 .int = true), ∀ (r19 : Nat) (hr19 : r19 = 0 ∨ ev_isAb (r19 - 1) 1 .int = true), ∀ (x20 : Int) (hx20 : ev_rng x20), ∀ (x21 : Int) (hx21 : ev_rng x21), ∀ (s31 : ev_St) (w22 : List (Nat × Value)), ev_lk w22 0 = some (.ref k) → ev_lk w22 1 = some (ev_nv a0) → ev_lk w22 2 = some (.int (Int32.ofInt a1)) → ev_lk w22 3 = some (.int (Int32.ofInt x17)) → ev_lk w22 4 = some (ev_nv r18) → ev_lk w22 5 = some (ev_nv r19) → ev_lk w22 6 = some (.int (Int32.ofInt x20)) → ev_lk w22 7 = some (.int (Int32.ofInt x21)) → ev_w none (ev_Mof 161) d 70 w22 [] s31 (jl_161_70 Q k a0 a1  q x17 r18 r19 x20 x21 s31) ev_eU ev_PU := by
  intro q
  induction q with
  | zero =>
    intro x17 hx17 r18 hr18 r19 hr19 x20 hx20 x21 hx21 s31 w22 e23 e24 e25 e26 e27 e28 e29 e30
    exact ev_w_none
  | succ q ih => exact jbt_161_70 d hd Q k a0 a1 hk ha0 ha1   _ ih
/-- MendBench$Threads.pass(LMendBench$Text;I)V -/
def jm_161 (Q : Nat) (k : Nat) (a0 : Nat) (a1 : Int) (S : ev_St) : Option ((Unit) × ev_St) := ev_b (S.1 k 15) fun x1 => ev_b (S.2.2.1 k 2) fun r2 => ev_b (S.2.2.1 k 4) fun r3 => ev_b (S.2.2.1 k 3) fun r4 => ev_b (ev_pR S k 2 r4) fun s5 => ev_b (s5.2.2.1 k 5) fun r6 => ev_b (ev_pR s5 k 4 r6) fun s7 => ev_b (ev_pR s7 k 3 r2) fun s8 => ev_b (ev_pR s8 k 5 r3) fun s9 => ev_b (ev_pI s9 k 15 0) fun s10 => ev_b (s10.1 k 7) fun x11 => ev_ck (x11 + 1) fun x12 => ev_b (ev_pI s10 k 7 x12) fun s13 => ev_if (a0 ≠ 0) (ev_bd (jm_151 Q ((a0 - 1)) a1 s13) fun x16 s15 => jl_161_70 Q k a0 a1  Q x1 r2 r3 x16 0 s15)
theorem jt_161 (d : Nat) (hd : 5 ≤ d) (Q : Nat) (k : Nat) (a0 : Nat) (a1 : Int) (hk : ev_isOb k 11 = true) (ha0 : a0 = 0 ∨ ev_isOb (a0 - 1) 10 = true) (ha1 : ev_rng a1) (S : ev_St) (x : Unit) (S' : ev_St) (hJ : jm_161 Q k a0 a1 S = some (x, S')) : ev_Ref d 161 [.ref k, ev_nv a0, .int (Int32.ofInt a1)] S (ev_eU x) S' (ev_PU x) := by
  obtain ⟨d, rfl⟩ : ∃ e, d = e + 1 := ⟨d - 1, by omega⟩
  refine ev_ref_of (P := ev_PU) (lv := [(0, .ref k), (1, ev_nv a0), (2, .int (Int32.ofInt a1))]) (by decide +kernel) (by (try simp only [ev_sum, ev_nv_cat]); first | done | rfl) (by (try simp only [lv_args, ev_nv_cat]); first | done | rfl) ?_ x S' hJ
  unfold jm_161
  refine ev_r_aload_n (pc := 0) (k := 0) (v := .ref k) trivial (by decide +kernel) (by rfl) ?_
  refine ev_r_getI (pc := 1) (y := 62) (ci := 11) (f := 15) (fin := 0) (by decide +kernel) (by decide +kernel) (by exact hk) rfl ?_
  intro x1 hx1
  refine ev_r_istore_n (pc := 4) (k := 3) (by decide +kernel) (by decide +kernel) rfl ?_
  refine ev_r_aload_n (pc := 5) (k := 0) (v := .ref k) trivial (by decide +kernel) (by exact (ev_l1 (by rfl) (by decide) (by decide))) ?_
  refine ev_r_getR (pc := 6) (y := 11) (ci := 11) (f := 2) (fin := 0) (t := 100) (by decide +kernel) (by decide +kernel) (by exact hk) rfl rfl ?_
  intro r2 hr2
  have hr2 : r2 = 0 ∨ ev_isAb (r2 - 1) 1 .int = true := hr2
  refine ev_r_astore (pc := 9) (k := 4) (ev_isR_nv _) (by decide +kernel) (by decide +kernel) rfl ?_
  refine ev_r_aload_n (pc := 11) (k := 0) (v := .ref k) trivial (by decide +kernel) (by exact (ev_l1 (ev_l1 (by rfl) (by decide) (by decide)) (by decide) (by decide))) ?_
  refine ev_r_getR (pc := 12) (y := 39) (ci := 11) (f := 4) (fin := 0) (t := 100) (by decide +kernel) (by decide +kernel) (by exact hk) rfl rfl ?_
  intro r3 hr3
  have hr3 : r3 = 0 ∨ ev_isAb (r3 - 1) 1 .int = true := hr3
  refine ev_r_astore (pc := 15) (k := 5) (ev_isR_nv _) (by decide +kernel) (by decide +kernel) rfl ?_
  refine ev_r_aload_n (pc := 17) (k := 0) (v := .ref k) trivial (by decide +kernel) (by exact (ev_l1 (ev_l1 (ev_l1 (by rfl) (by decide) (by decide)) (by decide) (by decide)) (by decide) (by decide))) ?_
  refine ev_r_aload_n (pc := 18) (k := 0) (v := .ref k) trivial (by decide +kernel) (by exact (ev_l1 (ev_l1 (ev_l1 (by rfl) (by decide) (by decide)) (by decide) (by decide)) (by decide) (by decide))) ?_
  refine ev_r_getR (pc := 19) (y := 17) (ci := 11) (f := 3) (fin := 0) (t := 100) (by decide +kernel) (by decide +kernel) (by exact hk) rfl rfl ?_
  intro r4 hr4
  have hr4 : r4 = 0 ∨ ev_isAb (r4 - 1) 1 .int = true := hr4
  refine ev_r_putR (pc := 22) (y := 11) (ci := 11) (f := 2) (r := r4) (t := 100) (by exact hr4) (by decide +kernel) (by decide +kernel) (by exact hk) rfl rfl (by cases r4 <;> rfl) ?_
  intro s5
  refine ev_r_aload_n (pc := 25) (k := 0) (v := .ref k) trivial (by decide +kernel) (by exact (ev_l1 (ev_l1 (ev_l1 (by rfl) (by decide) (by decide)) (by decide) (by decide)) (by decide) (by decide))) ?_
  refine ev_r_aload_n (pc := 26) (k := 0) (v := .ref k) trivial (by decide +kernel) (by exact (ev_l1 (ev_l1 (ev_l1 (by rfl) (by decide) (by decide)) (by decide) (by decide)) (by decide) (by decide))) ?_
  refine ev_r_getR (pc := 27) (y := 42) (ci := 11) (f := 5) (fin := 0) (t := 100) (by decide +kernel) (by decide +kernel) (by exact hk) rfl rfl ?_
  intro r6 hr6
  have hr6 : r6 = 0 ∨ ev_isAb (r6 - 1) 1 .int = true := hr6
  refine ev_r_putR (pc := 30) (y := 39) (ci := 11) (f := 4) (r := r6) (t := 100) (by exact hr6) (by decide +kernel) (by decide +kernel) (by exact hk) rfl rfl (by cases r6 <;> rfl) ?_
  intro s7
  refine ev_r_aload_n (pc := 33) (k := 0) (v := .ref k) trivial (by decide +kernel) (by exact (ev_l1 (ev_l1 (ev_l1 (by rfl) (by decide) (by decide)) (by decide) (by decide)) (by decide) (by decide))) ?_
  refine ev_r_aload (pc := 34) (k := 4) (v := ev_nv r2) (ev_isR_nv _) (by decide +kernel) (by exact (ev_lk_st1 ev_lk_st1_self (by decide) (ev_nv_cat _))) ?_
  refine ev_r_putR (pc := 36) (y := 17) (ci := 11) (f := 3) (r := r2) (t := 100) (by exact hr2) (by decide +kernel) (by decide +kernel) (by exact hk) rfl rfl (by cases r2 <;> rfl) ?_
  intro s8
  refine ev_r_aload_n (pc := 39) (k := 0) (v := .ref k) trivial (by decide +kernel) (by exact (ev_l1 (ev_l1 (ev_l1 (by rfl) (by decide) (by decide)) (by decide) (by decide)) (by decide) (by decide))) ?_
  refine ev_r_aload (pc := 40) (k := 5) (v := ev_nv r3) (ev_isR_nv _) (by decide +kernel) (by exact ev_lk_st1_self) ?_
  refine ev_r_putR (pc := 42) (y := 42) (ci := 11) (f := 5) (r := r3) (t := 100) (by exact hr3) (by decide +kernel) (by decide +kernel) (by exact hk) rfl rfl (by cases r3 <;> rfl) ?_
  intro s9
  refine ev_r_aload_n (pc := 45) (k := 0) (v := .ref k) trivial (by decide +kernel) (by exact (ev_l1 (ev_l1 (ev_l1 (by rfl) (by decide) (by decide)) (by decide) (by decide)) (by decide) (by decide))) ?_
  refine ev_r_iconst (pc := 46) (k := 0) (by decide +kernel) ?_
  refine ev_r_putI (pc := 47) (y := 62) (ci := 11) (f := 15) (by decide) (by decide +kernel) (by decide +kernel) (by exact hk) rfl rfl ?_
  intro s10
  refine ev_r_aload_n (pc := 50) (k := 0) (v := .ref k) trivial (by decide +kernel) (by exact (ev_l1 (ev_l1 (ev_l1 (by rfl) (by decide) (by decide)) (by decide) (by decide)) (by decide) (by decide))) ?_
  refine ev_r_dup (pc := 51) rfl (by decide +kernel) ?_
  refine ev_r_getI (pc := 52) (y := 71) (ci := 11) (f := 7) (fin := 0) (by decide +kernel) (by decide +kernel) (by exact hk) rfl ?_
  intro x11 hx11
  refine ev_r_iconst (pc := 55) (k := 1) (by decide +kernel) ?_
  refine ev_r_iadd (pc := 56) (by decide +kernel) ?_
  intro x12 hx12
  refine ev_r_putI (pc := 57) (y := 71) (ci := 11) (f := 7) hx12 (by decide +kernel) (by decide +kernel) (by exact hk) rfl rfl ?_
  intro s13
  refine ev_r_aload_n (pc := 60) (k := 1) (v := ev_nv a0) (ev_isR_nv _) (by decide +kernel) (by exact (ev_l1 (ev_l1 (ev_l1 (by rfl) (by decide) (by decide)) (by decide) (by decide)) (by decide) (by decide))) ?_
  refine ev_r_iload_n (pc := 61) (k := 2) (v := Int32.ofInt a1) (by decide +kernel) (by exact (ev_l1 (ev_l1 (ev_lk_st1 (by rfl) (by decide) rfl) (by decide) (by decide)) (by decide) (by decide))) ?_
  refine ev_r_chk ?_
  intro c14
  refine ev_r_dr (r := a0) (fun v => [.int (Int32.ofInt a1), v]) c14 ?_
  refine ev_r_virt (pc := 62) (y := 100) (mi := 151) (na := 1) (k := (a0 - 1)) (as := [.int (Int32.ofInt a1)]) (rest := []) (encc := ev_oI) (Q := ev_rng) (fun x S1 h => jt_151 d (by omega) Q ((a0 - 1)) a1 (ha0.resolve_left c14) ha1 s13 x S1 h) (by exact (ha0.resolve_left c14)) (by decide +kernel) (by decide +kernel) (by decide +kernel) (by decide +kernel) rfl (by (try simp only [ev_sum, ev_nv_cat]); first | done | rfl) ?_
  intro x16 s15 hx16
  show ev_w _ _ _ _ _ [.int (Int32.ofInt x16)] _ _ _ _
  refine ev_r_istore (pc := 65) (k := 6) (by decide +kernel) (by decide +kernel) rfl ?_
  refine ev_r_iconst (pc := 67) (k := 0) (by decide +kernel) ?_
  refine ev_r_istore (pc := 68) (k := 7) (by decide +kernel) (by decide +kernel) rfl ?_
  exact jlt_161_70 d hd Q k a0 a1 hk ha0 ha1   Q x1 hx1 r2 hr2 r3 hr3 x16 hx16 0 (by decide) s15 _ (by exact (ev_l1 (ev_l1 (ev_l1 (ev_l1 (ev_l1 (by rfl) (by decide) (by decide)) (by decide) (by decide)) (by decide) (by decide)) (by decide) (by decide)) (by decide) (by decide))) (by exact (ev_l1 (ev_l1 (ev_l1 (ev_l1 (ev_l1 (by rfl) (by decide) (by decide)) (by decide) (by decide)) (by decide) (by decide)) (by decide) (by decide)) (by decide) (by decide))) (by exact (ev_l1 (ev_l1 (ev_l1 (ev_l1 (ev_lk_st1 (by rfl) (by decide) rfl) (by decide) (by decide)) (by decide) (by decide)) (by decide) (by decide)) (by decide) (by decide))) (by exact (ev_l1 (ev_l1 (ev_l1 (ev_lk_st1 ev_lk_st1_self (by decide) rfl) (by decide) (by decide)) (by decide) (by decide)) (by decide) (by decide))) (by exact (ev_l1 (ev_l1 (ev_lk_st1 ev_lk_st1_self (by decide) (ev_nv_cat _)) (by decide) (by decide)) (by decide) (by decide))) (by exact (ev_l1 (ev_lk_st1 ev_lk_st1_self (by decide) (ev_nv_cat _)) (by decide) (by decide))) (by exact (ev_lk_st1 ev_lk_st1_self (by decide) rfl)) (by exact ev_lk_st1_self)
def jb_148_2 (Q : Nat) (k : Nat) (a0 : Nat)  (K2 : Int → ev_St → Option ((Unit) × ev_St)) (x1 : Int) (s6 : ev_St) : Option ((Unit) × ev_St) := ev_if (a0 ≠ 0) (ev_b (s6.1 ((a0 - 1)) 1) fun x8 => if x8 ≤ x1 then (some ((), s6)) else (ev_if (a0 ≠ 0) (ev_bd (jm_151 Q ((a0 - 1)) x1 s6) fun x12 s11 => ev_bd (jm_152 Q ((k + 1)) x12 s11) fun _ s13 => ev_b (s13.1 ((k + 1)) 1) fun x14 => ev_ck (x14 - 1) fun x15 => ev_bd (jm_161 Q ((k + 3)) (((k + 1) + 1)) x15 s13) fun _ s16 => ev_b (s16.1 ((k + 1)) 1) fun x17 => ev_b (s16.1 k 2) fun x18 => ev_jn (fun (x22 : Int) (x21 : Int) (r20 : Nat) (r19 : Nat) (s27 : ev_St) => ev_bd (jm_160 Q r19 ((r20 + 1)) x21 x22 s27) fun _ s28 => ev_ck (x1 + 1) fun x29 => K2 x29 s28) fun K69 => if x18 ≠ 0 then (K69 0 x17 ((k + 1)) ((k + 3)) s16) else (K69 1 x17 ((k + 1)) ((k + 3)) s16))))
def jl_148_2 (Q : Nat) (k : Nat) (a0 : Nat)  : Nat → Int → ev_St → Option ((Unit) × ev_St)
  | 0 => fun _ _ => none
  | q + 1 => jb_148_2 Q k a0  (jl_148_2 Q k a0  q)
theorem jbt_148_2 (d : Nat) (hd : 6 ≤ d + 1) (Q : Nat) (k : Nat) (a0 : Nat) (hk : ev_isOb k 9 = true) (ha0 : a0 = 0 ∨ ev_isOb (a0 - 1) 10 = true)   (K2 : Int → ev_St → Option ((Unit) × ev_St)) (hK2 : ∀ (x1 : Int) (hx1 : ev_rng x1), ∀ (s6 : ev_St) (w2 : List (Nat × Value)), ev_lk w2 0 = some (.ref k) → ev_lk w2 1 = some (ev_nv a0) → ev_lk w2 2 = some (.int (Int32.ofInt x1)) → ev_w none (ev_Mof 148) d 2 w2 [] s6 (K2 x1 s6) ev_eU ev_PU) : ∀ (x1 : Int) (hx1 : ev_rng x1), ∀ (s6 : ev_St) (w2 : List (Nat × Value)), ev_lk w2 0 = some (.ref k) → ev_lk w2 1 = some (ev_nv a0) → ev_lk w2 2 = some (.int (Int32.ofInt x1)) → ev_w none (ev_Mof 148) d 2 w2 [] s6 (jb_148_2 Q k a0  K2 x1 s6) ev_eU ev_PU := by
  intro x1 hx1 s6 w2 e3 e4 e5
  unfold jb_148_2
  refine ev_r_iload_n (pc := 2) (k := 2) (v := Int32.ofInt x1) (by decide +kernel) (by exact e5) ?_
  refine ev_r_aload_n (pc := 3) (k := 1) (v := ev_nv a0) (ev_isR_nv _) (by decide +kernel) (by exact e4) ?_
  refine ev_r_chk ?_
  intro c7
  refine ev_r_dr (r := a0) (fun v => [v, .int (Int32.ofInt x1)]) c7 ?_
  refine ev_r_getI (pc := 4) (y := 39) (ci := 10) (f := 1) (fin := 0) (by decide +kernel) (by decide +kernel) (by exact (ha0.resolve_left c7)) rfl ?_
  intro x8 hx8
  refine ev_r_icmp (pc := 7) (q := .ge) (o := 71) (t := 78) (c := x8 ≤ x1) (by decide +kernel) (ev_k_ge hx1 hx8) (by decide +kernel) ?_ ?_
  · intro c9
    exact ev_r_return (pc := 78) (x := ()) trivial (by decide +kernel) (by decide +kernel) rfl
  · intro c9
    refine ev_r_aload_n (pc := 10) (k := 0) (v := .ref k) trivial (by decide +kernel) (by exact e3) ?_
    refine ev_r_getC (pc := 11) (y := 12) (ci := 9) (f := 0) (fin := 1) (k' := (k + 1)) (by decide +kernel) (by decide +kernel) (by exact hk) rfl rfl ?_
    refine ev_r_aload_n (pc := 14) (k := 1) (v := ev_nv a0) (ev_isR_nv _) (by decide +kernel) (by exact e4) ?_
    refine ev_r_iload_n (pc := 15) (k := 2) (v := Int32.ofInt x1) (by decide +kernel) (by exact e5) ?_
    refine ev_r_chk ?_
    intro c10
    refine ev_r_dr (r := a0) (fun v => [.int (Int32.ofInt x1), v, .ref ((k + 1))]) c10 ?_
    refine ev_r_virt (pc := 16) (y := 43) (mi := 151) (na := 1) (k := (a0 - 1)) (as := [.int (Int32.ofInt x1)]) (rest := [.ref ((k + 1))]) (encc := ev_oI) (Q := ev_rng) (fun x S1 h => jt_151 d (by omega) Q ((a0 - 1)) x1 (ha0.resolve_left c10) hx1 s6 x S1 h) (by exact (ha0.resolve_left c10)) (by decide +kernel) (by decide +kernel) (by decide +kernel) (by decide +kernel) rfl (by (try simp only [ev_sum, ev_nv_cat]); first | done | rfl) ?_
    intro x12 s11 hx12
    show ev_w _ _ _ _ _ [.int (Int32.ofInt x12), .ref ((k + 1))] _ _ _ _
    refine ev_r_virt (pc := 19) (y := 47) (mi := 152) (na := 1) (k := (k + 1)) (as := [.int (Int32.ofInt x12)]) (rest := []) (encc := ev_oU) (Q := ev_PU) (fun x S1 h => jt_152 d (by omega) Q ((k + 1)) x12 (ev_fo_9_0 hk) hx12 s11 x S1 h) (by exact (ev_fo_9_0 hk)) (by decide +kernel) (by decide +kernel) (by decide +kernel) (by decide +kernel) rfl (by (try simp only [ev_sum, ev_nv_cat]); first | done | rfl) ?_
    intro _ s13 _
    show ev_w _ _ _ _ _ [] _ _ _ _
    refine ev_r_aload_n (pc := 22) (k := 0) (v := .ref k) trivial (by decide +kernel) (by exact e3) ?_
    refine ev_r_getC (pc := 23) (y := 23) (ci := 9) (f := 1) (fin := 1) (k' := (k + 3)) (by decide +kernel) (by decide +kernel) (by exact hk) rfl rfl ?_
    refine ev_r_aload_n (pc := 26) (k := 0) (v := .ref k) trivial (by decide +kernel) (by exact e3) ?_
    refine ev_r_getC (pc := 27) (y := 12) (ci := 9) (f := 0) (fin := 1) (k' := (k + 1)) (by decide +kernel) (by decide +kernel) (by exact hk) rfl rfl ?_
    refine ev_r_aload_n (pc := 30) (k := 0) (v := .ref k) trivial (by decide +kernel) (by exact e3) ?_
    refine ev_r_getC (pc := 31) (y := 12) (ci := 9) (f := 0) (fin := 1) (k' := (k + 1)) (by decide +kernel) (by decide +kernel) (by exact hk) rfl rfl ?_
    refine ev_r_getI (pc := 34) (y := 39) (ci := 10) (f := 1) (fin := 0) (by decide +kernel) (by decide +kernel) (by exact (ev_fo_9_0 hk)) rfl ?_
    intro x14 hx14
    refine ev_r_iconst (pc := 37) (k := 1) (by decide +kernel) ?_
    refine ev_r_isub (pc := 38) (by decide +kernel) ?_
    intro x15 hx15
    refine ev_r_virt (pc := 39) (y := 50) (mi := 161) (na := 2) (k := (k + 3)) (as := [ev_nv (((k + 1) + 1)), .int (Int32.ofInt x15)]) (rest := []) (encc := ev_oU) (Q := ev_PU) (fun x S1 h => jt_161 d (by omega) Q ((k + 3)) (((k + 1) + 1)) x15 (ev_fo_9_1 hk) (by exact (Or.inr (ev_fo_9_0 hk))) hx15 s13 x S1 h) (by exact (ev_fo_9_1 hk)) (by decide +kernel) (by decide +kernel) (by decide +kernel) (by decide +kernel) rfl (by (try simp only [ev_sum, ev_nv_cat]); first | done | rfl) ?_
    intro _ s16 _
    show ev_w _ _ _ _ _ [] _ _ _ _
    refine ev_r_aload_n (pc := 42) (k := 0) (v := .ref k) trivial (by decide +kernel) (by exact e3) ?_
    refine ev_r_getC (pc := 43) (y := 23) (ci := 9) (f := 1) (fin := 1) (k' := (k + 3)) (by decide +kernel) (by decide +kernel) (by exact hk) rfl rfl ?_
    refine ev_r_aload_n (pc := 46) (k := 0) (v := .ref k) trivial (by decide +kernel) (by exact e3) ?_
    refine ev_r_getC (pc := 47) (y := 12) (ci := 9) (f := 0) (fin := 1) (k' := (k + 1)) (by decide +kernel) (by decide +kernel) (by exact hk) rfl rfl ?_
    refine ev_r_aload_n (pc := 50) (k := 0) (v := .ref k) trivial (by decide +kernel) (by exact e3) ?_
    refine ev_r_getC (pc := 51) (y := 12) (ci := 9) (f := 0) (fin := 1) (k' := (k + 1)) (by decide +kernel) (by decide +kernel) (by exact hk) rfl rfl ?_
    refine ev_r_getI (pc := 54) (y := 39) (ci := 10) (f := 1) (fin := 0) (by decide +kernel) (by decide +kernel) (by exact (ev_fo_9_0 hk)) rfl ?_
    intro x17 hx17
    refine ev_r_aload_n (pc := 57) (k := 0) (v := .ref k) trivial (by decide +kernel) (by exact e3) ?_
    refine ev_r_getI (pc := 58) (y := 27) (ci := 9) (f := 2) (fin := 0) (by decide +kernel) (by decide +kernel) (by exact hk) rfl ?_
    intro x18 hx18
    refine ev_r_jn (Q := fun K => ∀ (x22 : Int) (hx22 : ev_rng x22), ∀ (x21 : Int) (hx21 : ev_rng x21), ∀ (r20 : Nat) (hr20 : ev_isOb r20 10 = true), ∀ (r19 : Nat) (hr19 : ev_isOb r19 11 = true), ∀ (s27 : ev_St) (w23 : List (Nat × Value)), ev_lk w23 0 = some (.ref k) → ev_lk w23 1 = some (ev_nv a0) → ev_lk w23 2 = some (.int (Int32.ofInt x1)) → ev_w none (ev_Mof 148) d 69 w23 [.int (Int32.ofInt x22), .int (Int32.ofInt x21), .ref r20, .ref r19] s27 (K x22 x21 r20 r19 s27) ev_eU ev_PU) ?_ ?_
    · intro x22 hx22 x21 hx21 r20 hr20 r19 hr19 s27 w23 e24 e25 e26
      refine ev_r_virt (pc := 69) (y := 35) (mi := 160) (na := 3) (k := r19) (as := [ev_nv ((r20 + 1)), .int (Int32.ofInt x21), .int (Int32.ofInt x22)]) (rest := []) (encc := ev_oU) (Q := ev_PU) (fun x S1 h => jt_160 d (by omega) Q r19 ((r20 + 1)) x21 x22 hr19 (by exact (Or.inr hr20)) hx21 hx22 s27 x S1 h) (by exact hr19) (by decide +kernel) (by decide +kernel) (by decide +kernel) (by decide +kernel) rfl (by (try simp only [ev_sum, ev_nv_cat]); first | done | rfl) ?_
      intro _ s28 _
      show ev_w _ _ _ _ _ [] _ _ _ _
      refine ev_r_iinc (pc := 72) (k := 2) (c := 1) (x := x1) (by decide +kernel) (by decide +kernel) (by exact e26) (fun _ => rfl) ?_
      intro x29 hx29
      refine ev_r_goto (pc := 75) (o := (-73)) (t := 2) (by decide +kernel) (by decide +kernel) ?_
      exact hK2 x29 hx29 s28 _ (by exact (ev_l1 e24 (by decide) (by decide))) (by exact (ev_lk_st1 e25 (by decide) (ev_nv_cat _))) (by exact ev_lk_st1_self)
    · intro K69 hK69
      refine ev_r_if (pc := 61) (q := .ne) (o := 7) (t := 68) (c := x18 ≠ 0) (by decide +kernel) (ev_k_ne hx18 ev_rng0) (by decide +kernel) ?_ ?_
      · intro c30
        refine ev_r_iconst (pc := 68) (k := 0) (by decide +kernel) ?_
        exact hK69 0 (by decide) x17 hx17 ((k + 1)) (ev_fo_9_0 hk) ((k + 3)) (ev_fo_9_1 hk) s16 _ (by exact e3) (by exact e4) (by exact e5)
      · intro c30
        refine ev_r_iconst (pc := 64) (k := 1) (by decide +kernel) ?_
        refine ev_r_goto (pc := 65) (o := 4) (t := 69) (by decide +kernel) (by decide +kernel) ?_
        exact hK69 1 (by decide) x17 hx17 ((k + 1)) (ev_fo_9_0 hk) ((k + 3)) (ev_fo_9_1 hk) s16 _ (by exact e3) (by exact e4) (by exact e5)
theorem jlt_148_2 (d : Nat) (hd : 6 ≤ d + 1) (Q : Nat) (k : Nat) (a0 : Nat) (hk : ev_isOb k 9 = true) (ha0 : a0 = 0 ∨ ev_isOb (a0 - 1) 10 = true)   : ∀ q : Nat, ∀ (x1 : Int) (hx1 : ev_rng x1), ∀ (s6 : ev_St) (w2 : List (Nat × Value)), ev_lk w2 0 = some (.ref k) → ev_lk w2 1 = some (ev_nv a0) → ev_lk w2 2 = some (.int (Int32.ofInt x1)) → ev_w none (ev_Mof 148) d 2 w2 [] s6 (jl_148_2 Q k a0  q x1 s6) ev_eU ev_PU := by
  intro q
  induction q with
  | zero =>
    intro x1 hx1 s6 w2 e3 e4 e5
    exact ev_w_none
  | succ q ih => exact jbt_148_2 d hd Q k a0 hk ha0   _ ih
/-- MendBench$Stream.take(LMendBench$Text;)V -/
def jm_148 (Q : Nat) (k : Nat) (a0 : Nat) (S : ev_St) : Option ((Unit) × ev_St) := jl_148_2 Q k a0  Q 0 S
theorem jt_148 (d : Nat) (hd : 6 ≤ d) (Q : Nat) (k : Nat) (a0 : Nat) (hk : ev_isOb k 9 = true) (ha0 : a0 = 0 ∨ ev_isOb (a0 - 1) 10 = true) (S : ev_St) (x : Unit) (S' : ev_St) (hJ : jm_148 Q k a0 S = some (x, S')) : ev_Ref d 148 [.ref k, ev_nv a0] S (ev_eU x) S' (ev_PU x) := by
  obtain ⟨d, rfl⟩ : ∃ e, d = e + 1 := ⟨d - 1, by omega⟩
  refine ev_ref_of (P := ev_PU) (lv := [(0, .ref k), (1, ev_nv a0)]) (by decide +kernel) (by (try simp only [ev_sum, ev_nv_cat]); first | done | rfl) (by (try simp only [lv_args, ev_nv_cat]); first | done | rfl) ?_ x S' hJ
  unfold jm_148
  refine ev_r_iconst (pc := 0) (k := 0) (by decide +kernel) ?_
  refine ev_r_istore_n (pc := 1) (k := 2) (by decide +kernel) (by decide +kernel) rfl ?_
  exact jlt_148_2 d hd Q k a0 hk ha0   Q 0 (by decide) S _ (by exact (ev_l1 (by rfl) (by decide) (by decide))) (by exact (ev_lk_st1 (by rfl) (by decide) (ev_nv_cat _))) (by exact ev_lk_st1_self)
/-- MendBench$Threads.spanOf(I)I -/
def jm_159 (Q : Nat) (k : Nat) (a0 : Int) (S : ev_St) : Option ((Int) × ev_St) := ev_b (S.1 k 14) fun x1 => if x1 ≠ 0 then (if a0 ≠ 0 then (if a0 < 0 then (some ((-3), S)) else (ev_ck (2 * a0) fun x5 => ev_ck (x5 + 1) fun x6 => ev_b (S.1 k 0) fun x7 => if x7 ≤ x6 then (some ((-3), S)) else (ev_ck (2 * a0) fun x9 => ev_ck (x9 + 1) fun x10 => ev_if ((0 : Int) ≤ x10 ∧ x10 < (ev_aln ((k + 7)) : Int)) (ev_b (S.1 ((k + 7)) (Int.toNat x10)) fun x11 => if 0 ≤ x11 then (ev_ck (2 * a0) fun x13 => ev_if ((0 : Int) ≤ x13 ∧ x13 < (ev_aln ((k + 7)) : Int)) (ev_b (S.1 ((k + 7)) (Int.toNat x13)) fun x14 => ev_ck (1000 * x14) fun x15 => ev_ck (2 * a0) fun x16 => ev_ck (x16 + 1) fun x17 => ev_if ((0 : Int) ≤ x17 ∧ x17 < (ev_aln ((k + 7)) : Int)) (ev_b (S.1 ((k + 7)) (Int.toNat x17)) fun x18 => ev_ck (x15 + x18) fun x19 => some (x19, S)))) else (some ((-3), S)))))) else (ev_if ((0 : Int) ≤ 0 ∧ 0 < (ev_aln ((k + 7)) : Int)) (ev_b (S.1 ((k + 7)) (Int.toNat 0)) fun x20 => ev_ck (1000 * x20) fun x21 => ev_b (S.1 k 13) fun x22 => ev_ck (x21 + x22) fun x23 => some (x23, S)))) else (some ((-1), S))
theorem jt_159 (d : Nat) (hd : 1 ≤ d) (Q : Nat) (k : Nat) (a0 : Int) (hk : ev_isOb k 11 = true) (ha0 : ev_rng a0) (S : ev_St) (x : Int) (S' : ev_St) (hJ : jm_159 Q k a0 S = some (x, S')) : ev_Ref d 159 [.ref k, .int (Int32.ofInt a0)] S (ev_eI x) S' (ev_rng x) := by
  obtain ⟨d, rfl⟩ : ∃ e, d = e + 1 := ⟨d - 1, by omega⟩
  refine ev_ref_of (P := ev_rng) (lv := [(0, .ref k), (1, .int (Int32.ofInt a0))]) (by decide +kernel) (by (try simp only [ev_sum, ev_nv_cat]); first | done | rfl) (by (try simp only [lv_args, ev_nv_cat]); first | done | rfl) ?_ x S' hJ
  unfold jm_159
  refine ev_r_aload_n (pc := 0) (k := 0) (v := .ref k) trivial (by decide +kernel) (by rfl) ?_
  refine ev_r_getI (pc := 1) (y := 58) (ci := 11) (f := 14) (fin := 0) (by decide +kernel) (by decide +kernel) (by exact hk) rfl ?_
  intro x1 hx1
  refine ev_r_if (pc := 4) (q := .ne) (o := 5) (t := 9) (c := x1 ≠ 0) (by decide +kernel) (ev_k_ne hx1 ev_rng0) (by decide +kernel) ?_ ?_
  · intro c2
    refine ev_r_iload_n (pc := 9) (k := 1) (v := Int32.ofInt a0) (by decide +kernel) (by rfl) ?_
    refine ev_r_if (pc := 10) (q := .ne) (o := 19) (t := 29) (c := a0 ≠ 0) (by decide +kernel) (ev_k_ne ha0 ev_rng0) (by decide +kernel) ?_ ?_
    · intro c3
      refine ev_r_iload_n (pc := 29) (k := 1) (v := Int32.ofInt a0) (by decide +kernel) (by rfl) ?_
      refine ev_r_if (pc := 30) (q := .lt) (o := 28) (t := 58) (c := a0 < 0) (by decide +kernel) (ev_k_lt ha0 ev_rng0) (by decide +kernel) ?_ ?_
      · intro c4
        refine ev_r_bipush (pc := 58) (k := -3) (by decide +kernel) (by decide +kernel) ?_
        exact ev_r_ireturn (pc := 60) (x := (-3)) (v := Int32.ofInt ((-3))) (ty := .int) (by decide) (by decide +kernel) (by decide +kernel) rfl rfl
      · intro c4
        refine ev_r_iconst (pc := 33) (k := 2) (by decide +kernel) ?_
        refine ev_r_iload_n (pc := 34) (k := 1) (v := Int32.ofInt a0) (by decide +kernel) (by rfl) ?_
        refine ev_r_imul (pc := 35) (by decide +kernel) ?_
        intro x5 hx5
        refine ev_r_iconst (pc := 36) (k := 1) (by decide +kernel) ?_
        refine ev_r_iadd (pc := 37) (by decide +kernel) ?_
        intro x6 hx6
        refine ev_r_aload_n (pc := 38) (k := 0) (v := .ref k) trivial (by decide +kernel) (by rfl) ?_
        refine ev_r_getI (pc := 39) (y := 29) (ci := 11) (f := 0) (fin := 1) (by decide +kernel) (by decide +kernel) (by exact hk) rfl ?_
        intro x7 hx7
        refine ev_r_icmp (pc := 42) (q := .ge) (o := 16) (t := 58) (c := x7 ≤ x6) (by decide +kernel) (ev_k_ge hx6 hx7) (by decide +kernel) ?_ ?_
        · intro c8
          refine ev_r_bipush (pc := 58) (k := -3) (by decide +kernel) (by decide +kernel) ?_
          exact ev_r_ireturn (pc := 60) (x := (-3)) (v := Int32.ofInt ((-3))) (ty := .int) (by decide) (by decide +kernel) (by decide +kernel) rfl rfl
        · intro c8
          refine ev_r_aload_n (pc := 45) (k := 0) (v := .ref k) trivial (by decide +kernel) (by rfl) ?_
          refine ev_r_getC (pc := 46) (y := 36) (ci := 11) (f := 12) (fin := 1) (k' := (k + 7)) (by decide +kernel) (by decide +kernel) (by exact hk) rfl rfl ?_
          refine ev_r_iconst (pc := 49) (k := 2) (by decide +kernel) ?_
          refine ev_r_iload_n (pc := 50) (k := 1) (v := Int32.ofInt a0) (by decide +kernel) (by rfl) ?_
          refine ev_r_imul (pc := 51) (by decide +kernel) ?_
          intro x9 hx9
          refine ev_r_iconst (pc := 52) (k := 1) (by decide +kernel) ?_
          refine ev_r_iadd (pc := 53) (by decide +kernel) ?_
          intro x10 hx10
          refine ev_r_iald (pc := 54) hx10 (by decide +kernel) (by exact (ev_fo_11_12 hk)) ?_
          intro x11 hx11
          refine ev_r_if (pc := 55) (q := .ge) (o := 6) (t := 61) (c := 0 ≤ x11) (by decide +kernel) (ev_k_ge hx11 ev_rng0) (by decide +kernel) ?_ ?_
          · intro c12
            refine ev_r_sipush (pc := 61) (k := 1000) (by decide +kernel) (by decide +kernel) ?_
            refine ev_r_aload_n (pc := 64) (k := 0) (v := .ref k) trivial (by decide +kernel) (by rfl) ?_
            refine ev_r_getC (pc := 65) (y := 36) (ci := 11) (f := 12) (fin := 1) (k' := (k + 7)) (by decide +kernel) (by decide +kernel) (by exact hk) rfl rfl ?_
            refine ev_r_iconst (pc := 68) (k := 2) (by decide +kernel) ?_
            refine ev_r_iload_n (pc := 69) (k := 1) (v := Int32.ofInt a0) (by decide +kernel) (by rfl) ?_
            refine ev_r_imul (pc := 70) (by decide +kernel) ?_
            intro x13 hx13
            refine ev_r_iald (pc := 71) hx13 (by decide +kernel) (by exact (ev_fo_11_12 hk)) ?_
            intro x14 hx14
            refine ev_r_imul (pc := 72) (by decide +kernel) ?_
            intro x15 hx15
            refine ev_r_aload_n (pc := 73) (k := 0) (v := .ref k) trivial (by decide +kernel) (by rfl) ?_
            refine ev_r_getC (pc := 74) (y := 36) (ci := 11) (f := 12) (fin := 1) (k' := (k + 7)) (by decide +kernel) (by decide +kernel) (by exact hk) rfl rfl ?_
            refine ev_r_iconst (pc := 77) (k := 2) (by decide +kernel) ?_
            refine ev_r_iload_n (pc := 78) (k := 1) (v := Int32.ofInt a0) (by decide +kernel) (by rfl) ?_
            refine ev_r_imul (pc := 79) (by decide +kernel) ?_
            intro x16 hx16
            refine ev_r_iconst (pc := 80) (k := 1) (by decide +kernel) ?_
            refine ev_r_iadd (pc := 81) (by decide +kernel) ?_
            intro x17 hx17
            refine ev_r_iald (pc := 82) hx17 (by decide +kernel) (by exact (ev_fo_11_12 hk)) ?_
            intro x18 hx18
            refine ev_r_iadd (pc := 83) (by decide +kernel) ?_
            intro x19 hx19
            exact ev_r_ireturn (pc := 84) (x := x19) (v := Int32.ofInt x19) (ty := .int) hx19 (by decide +kernel) (by decide +kernel) rfl rfl
          · intro c12
            refine ev_r_bipush (pc := 58) (k := -3) (by decide +kernel) (by decide +kernel) ?_
            exact ev_r_ireturn (pc := 60) (x := (-3)) (v := Int32.ofInt ((-3))) (ty := .int) (by decide) (by decide +kernel) (by decide +kernel) rfl rfl
    · intro c3
      refine ev_r_sipush (pc := 13) (k := 1000) (by decide +kernel) (by decide +kernel) ?_
      refine ev_r_aload_n (pc := 16) (k := 0) (v := .ref k) trivial (by decide +kernel) (by rfl) ?_
      refine ev_r_getC (pc := 17) (y := 36) (ci := 11) (f := 12) (fin := 1) (k' := (k + 7)) (by decide +kernel) (by decide +kernel) (by exact hk) rfl rfl ?_
      refine ev_r_iconst (pc := 20) (k := 0) (by decide +kernel) ?_
      refine ev_r_iald (pc := 21) (by decide) (by decide +kernel) (by exact (ev_fo_11_12 hk)) ?_
      intro x20 hx20
      refine ev_r_imul (pc := 22) (by decide +kernel) ?_
      intro x21 hx21
      refine ev_r_aload_n (pc := 23) (k := 0) (v := .ref k) trivial (by decide +kernel) (by rfl) ?_
      refine ev_r_getI (pc := 24) (y := 74) (ci := 11) (f := 13) (fin := 0) (by decide +kernel) (by decide +kernel) (by exact hk) rfl ?_
      intro x22 hx22
      refine ev_r_iadd (pc := 27) (by decide +kernel) ?_
      intro x23 hx23
      exact ev_r_ireturn (pc := 28) (x := x23) (v := Int32.ofInt x23) (ty := .int) hx23 (by decide +kernel) (by decide +kernel) rfl rfl
  · intro c2
    refine ev_r_iconst (pc := 7) (k := -1) (by decide +kernel) ?_
    exact ev_r_ireturn (pc := 8) (x := (-1)) (v := Int32.ofInt ((-1))) (ty := .int) (by decide) (by decide +kernel) (by decide +kernel) rfl rfl
