/-! METHODS as functions, laid by decomp.py -/
theorem ev_fo_6_4 {k : Nat} (h : ev_isOb k 6 = true) : ev_isAb (k + 5) 1 .boolean = true := ev_foA (by decide +kernel) h
theorem ev_fo_5_13 {k : Nat} (h : ev_isOb k 5 = true) : ev_isOb (k + 12) 6 = true := ev_foO (by decide +kernel) h
theorem ev_ab_228 : ev_isAb 228 1 .int = true := (by decide +kernel)
theorem ev_ab_229 : ev_isAb 229 1 .boolean = true := (by decide +kernel)
theorem ev_ob_269 : ev_isOb 269 3 = true := (by decide +kernel)
theorem ev_ob_270 : ev_isOb 270 10 = true := (by decide +kernel)
theorem ev_ob_281 : ev_isOb 281 8 = true := (by decide +kernel)
theorem ev_ab_283 : ev_isAb 283 1 .int = true := (by decide +kernel)
theorem ev_ab_282 : ev_isAb 282 1 .int = true := (by decide +kernel)
def jb_75_74 (Q : Nat) (k : Nat) (a1 : Int) (a2 : Int) (a3 : Int) (x3 : Int) (x4 : Int) (x14 : Int)  (K74 : Int → ev_St → Option ((Unit) × ev_St)) (x24 : Int) (s34 : ev_St) : Option ((Unit) × ev_St) := if x4 ≤ x24 then (if a2 ≠ (-1) then (some ((), s34)) else (ev_ck (x3 + 1) fun x37 => ev_ck (-x37) fun x38 => ev_bd (jm_76 Q k 2 x38 ((Int64.ofNat ((0 : Fin 2) : Nat))) ((Int64.ofNat ((0 : Fin 2) : Nat))) s34) fun _ s39 => some ((), s39))) else (ev_jn (fun  (s49 : ev_St) => ev_bd (jm_77 Q k x14 x3 s49) fun _ s50 => ev_ck (x24 + 1) fun x51 => K74 x51 s50) fun K117 => if x24 < a1 then (K117  s34) else (ev_jn (fun (x55 : Int) (x54 : Int) (r53 : Nat) (s65 : ev_St) => ev_bd (jm_76 Q r53 x54 x55 ((Int64.ofNat ((0 : Fin 2) : Nat))) ((Int64.ofNat ((0 : Fin 2) : Nat))) s65) fun _ s66 => K117  s66) fun K112 => if a2 ≠ (-1) then (ev_ck (x4 - x24) fun x68 => ev_ck (x3 + 1) fun x69 => ev_ck (x68 * x69) fun x70 => K112 x70 a3 k s34) else (ev_ck (x3 + 2) fun x71 => K112 x71 a3 k s34)))
def jl_75_74 (Q : Nat) (k : Nat) (a1 : Int) (a2 : Int) (a3 : Int) (x3 : Int) (x4 : Int) (x14 : Int)  : Nat → Int → ev_St → Option ((Unit) × ev_St)
  | 0 => fun _ _ => none
  | q + 1 => jb_75_74 Q k a1 a2 a3 x3 x4 x14  (jl_75_74 Q k a1 a2 a3 x3 x4 x14  q)
theorem jbt_75_74 (d : Nat) (hd : 3 ≤ d + 1) (Q : Nat) (k : Nat) (a1 : Int) (a2 : Int) (a3 : Int) (x3 : Int) (x4 : Int) (x14 : Int) (hk : ev_isOb k 6 = true) (ha1 : ev_rng a1) (ha2 : ev_rng a2) (ha3 : ev_rng a3) (hx3 : ev_rng x3) (hx4 : ev_rng x4) (hx14 : ev_rng x14)   (K74 : Int → ev_St → Option ((Unit) × ev_St)) (hK74 : ∀ (x24 : Int) (hx24 : ev_rng x24), ∀ (s34 : ev_St) (w25 : List (Nat × Value)), ev_lk w25 0 = some (.ref k) → ev_lk w25 2 = some (.int (Int32.ofInt a1)) → ev_lk w25 3 = some (.int (Int32.ofInt a2)) → ev_lk w25 4 = some (.int (Int32.ofInt a3)) → ev_lk w25 5 = some (.int (Int32.ofInt x3)) → ev_lk w25 6 = some (.int (Int32.ofInt x4)) → ev_lk w25 7 = some (.int (Int32.ofInt x14)) → ev_lk w25 8 = some (.int (Int32.ofInt x24)) → ev_w none (ev_Mof 75) d 74 w25 [] s34 (K74 x24 s34) ev_eU ev_PU) : ∀ (x24 : Int) (hx24 : ev_rng x24), ∀ (s34 : ev_St) (w25 : List (Nat × Value)), ev_lk w25 0 = some (.ref k) → ev_lk w25 2 = some (.int (Int32.ofInt a1)) → ev_lk w25 3 = some (.int (Int32.ofInt a2)) → ev_lk w25 4 = some (.int (Int32.ofInt a3)) → ev_lk w25 5 = some (.int (Int32.ofInt x3)) → ev_lk w25 6 = some (.int (Int32.ofInt x4)) → ev_lk w25 7 = some (.int (Int32.ofInt x14)) → ev_lk w25 8 = some (.int (Int32.ofInt x24)) → ev_w none (ev_Mof 75) d 74 w25 [] s34 (jb_75_74 Q k a1 a2 a3 x3 x4 x14  K74 x24 s34) ev_eU ev_PU := by
  intro x24 hx24 s34 w25 e26 e27 e28 e29 e30 e31 e32 e33
  unfold jb_75_74
  refine ev_r_iload (pc := 74) (k := 8) (v := Int32.ofInt x24) (by decide +kernel) (by exact e33) ?_
  refine ev_r_iload (pc := 76) (k := 6) (v := Int32.ofInt x4) (by decide +kernel) (by exact e31) ?_
  refine ev_r_icmp (pc := 78) (q := .ge) (o := 53) (t := 131) (c := x4 ≤ x24) (by decide +kernel) (ev_k_ge hx24 hx4) (by decide +kernel) ?_ ?_
  · intro c35
    refine ev_r_iload_n (pc := 131) (k := 3) (v := Int32.ofInt a2) (by decide +kernel) (by exact e28) ?_
    refine ev_r_iconst (pc := 132) (k := -1) (by decide +kernel) ?_
    refine ev_r_icmp (pc := 133) (q := .ne) (o := 15) (t := 148) (c := a2 ≠ (-1)) (by decide +kernel) (ev_k_ne ha2 (by decide)) (by decide +kernel) ?_ ?_
    · intro c36
      exact ev_r_return (pc := 148) (x := ()) trivial (by decide +kernel) (by decide +kernel) rfl
    · intro c36
      refine ev_r_aload_n (pc := 136) (k := 0) (v := .ref k) trivial (by decide +kernel) (by exact e26) ?_
      refine ev_r_iconst (pc := 137) (k := 2) (by decide +kernel) ?_
      refine ev_r_iload (pc := 138) (k := 5) (v := Int32.ofInt x3) (by decide +kernel) (by exact e30) ?_
      refine ev_r_iconst (pc := 140) (k := 1) (by decide +kernel) ?_
      refine ev_r_iadd (pc := 141) (by decide +kernel) ?_
      intro x37 hx37
      refine ev_r_ineg (pc := 142) (by decide +kernel) ?_
      intro x38 hx38
      refine ev_r_lconst (pc := 143) (c := 0) (by decide +kernel) ?_
      refine ev_r_lconst (pc := 144) (c := 0) (by decide +kernel) ?_
      refine ev_r_virt (pc := 145) (y := 50) (mi := 76) (na := 4) (k := k) (as := [.int (Int32.ofInt 2), .int (Int32.ofInt x38), .long ((Int64.ofNat ((0 : Fin 2) : Nat))), .long ((Int64.ofNat ((0 : Fin 2) : Nat)))]) (rest := []) (encc := ev_oU) (Q := ev_PU) (fun x S1 h => jt_76 d (by omega) Q k 2 x38 ((Int64.ofNat ((0 : Fin 2) : Nat))) ((Int64.ofNat ((0 : Fin 2) : Nat))) hk (by decide) hx38 s34 x S1 h) (by exact hk) (by decide +kernel) (by decide +kernel) (by decide +kernel) (by decide +kernel) rfl (by (try simp only [ev_sum, ev_nv_cat]); first | done | rfl) ?_
      intro _ s39 _
      show ev_w _ _ _ _ _ [] _ _ _ _
      exact ev_r_return (pc := 148) (x := ()) trivial (by decide +kernel) (by decide +kernel) rfl
  · intro c35
    refine ev_r_iload (pc := 81) (k := 8) (v := Int32.ofInt x24) (by decide +kernel) (by exact e33) ?_
    refine ev_r_iload_n (pc := 83) (k := 2) (v := Int32.ofInt a1) (by decide +kernel) (by exact e27) ?_
    refine ev_r_jn (Q := fun K => ∀ (s49 : ev_St) (w40 : List (Nat × Value)), ev_lk w40 0 = some (.ref k) → ev_lk w40 2 = some (.int (Int32.ofInt a1)) → ev_lk w40 3 = some (.int (Int32.ofInt a2)) → ev_lk w40 4 = some (.int (Int32.ofInt a3)) → ev_lk w40 5 = some (.int (Int32.ofInt x3)) → ev_lk w40 6 = some (.int (Int32.ofInt x4)) → ev_lk w40 7 = some (.int (Int32.ofInt x14)) → ev_lk w40 8 = some (.int (Int32.ofInt x24)) → ev_w none (ev_Mof 75) d 117 w40 [] s49 (K  s49) ev_eU ev_PU) ?_ ?_
    · intro  s49 w40 e41 e42 e43 e44 e45 e46 e47 e48
      refine ev_r_aload_n (pc := 117) (k := 0) (v := .ref k) trivial (by decide +kernel) (by exact e41) ?_
      refine ev_r_iload (pc := 118) (k := 7) (v := Int32.ofInt x14) (by decide +kernel) (by exact e47) ?_
      refine ev_r_iload (pc := 120) (k := 5) (v := Int32.ofInt x3) (by decide +kernel) (by exact e45) ?_
      refine ev_r_virt (pc := 122) (y := 98) (mi := 77) (na := 2) (k := k) (as := [.int (Int32.ofInt x14), .int (Int32.ofInt x3)]) (rest := []) (encc := ev_oU) (Q := ev_PU) (fun x S1 h => jt_77 d (by omega) Q k x14 x3 hk hx14 hx3 s49 x S1 h) (by exact hk) (by decide +kernel) (by decide +kernel) (by decide +kernel) (by decide +kernel) rfl (by (try simp only [ev_sum, ev_nv_cat]); first | done | rfl) ?_
      intro _ s50 _
      show ev_w _ _ _ _ _ [] _ _ _ _
      refine ev_r_iinc (pc := 125) (k := 8) (c := 1) (x := x24) (by decide +kernel) (by decide +kernel) (by exact e48) (fun _ => rfl) ?_
      intro x51 hx51
      refine ev_r_goto (pc := 128) (o := (-54)) (t := 74) (by decide +kernel) (by decide +kernel) ?_
      exact hK74 x51 hx51 s50 _ (by exact (ev_l1 e41 (by decide) (by decide))) (by exact (ev_l1 e42 (by decide) (by decide))) (by exact (ev_l1 e43 (by decide) (by decide))) (by exact (ev_l1 e44 (by decide) (by decide))) (by exact (ev_l1 e45 (by decide) (by decide))) (by exact (ev_l1 e46 (by decide) (by decide))) (by exact (ev_lk_st1 e47 (by decide) rfl)) (by exact ev_lk_st1_self)
    · intro K117 hK117
      refine ev_r_icmp (pc := 84) (q := .lt) (o := 33) (t := 117) (c := x24 < a1) (by decide +kernel) (ev_k_lt hx24 ha1) (by decide +kernel) ?_ ?_
      · intro c52
        exact hK117  s34 _ (by exact e26) (by exact e27) (by exact e28) (by exact e29) (by exact e30) (by exact e31) (by exact e32) (by exact e33)
      · intro c52
        refine ev_r_aload_n (pc := 87) (k := 0) (v := .ref k) trivial (by decide +kernel) (by exact e26) ?_
        refine ev_r_iload (pc := 88) (k := 4) (v := Int32.ofInt a3) (by decide +kernel) (by exact e29) ?_
        refine ev_r_iload_n (pc := 90) (k := 3) (v := Int32.ofInt a2) (by decide +kernel) (by exact e28) ?_
        refine ev_r_iconst (pc := 91) (k := -1) (by decide +kernel) ?_
        refine ev_r_jn (Q := fun K => ∀ (x55 : Int) (hx55 : ev_rng x55), ∀ (x54 : Int) (hx54 : ev_rng x54), ∀ (r53 : Nat) (hr53 : ev_isOb r53 6 = true), ∀ (s65 : ev_St) (w56 : List (Nat × Value)), ev_lk w56 0 = some (.ref k) → ev_lk w56 2 = some (.int (Int32.ofInt a1)) → ev_lk w56 3 = some (.int (Int32.ofInt a2)) → ev_lk w56 4 = some (.int (Int32.ofInt a3)) → ev_lk w56 5 = some (.int (Int32.ofInt x3)) → ev_lk w56 6 = some (.int (Int32.ofInt x4)) → ev_lk w56 7 = some (.int (Int32.ofInt x14)) → ev_lk w56 8 = some (.int (Int32.ofInt x24)) → ev_w none (ev_Mof 75) d 112 w56 [.int (Int32.ofInt x55), .int (Int32.ofInt x54), .ref r53] s65 (K x55 x54 r53 s65) ev_eU ev_PU) ?_ ?_
        · intro x55 hx55 x54 hx54 r53 hr53 s65 w56 e57 e58 e59 e60 e61 e62 e63 e64
          refine ev_r_lconst (pc := 112) (c := 0) (by decide +kernel) ?_
          refine ev_r_lconst (pc := 113) (c := 0) (by decide +kernel) ?_
          refine ev_r_virt (pc := 114) (y := 50) (mi := 76) (na := 4) (k := r53) (as := [.int (Int32.ofInt x54), .int (Int32.ofInt x55), .long ((Int64.ofNat ((0 : Fin 2) : Nat))), .long ((Int64.ofNat ((0 : Fin 2) : Nat)))]) (rest := []) (encc := ev_oU) (Q := ev_PU) (fun x S1 h => jt_76 d (by omega) Q r53 x54 x55 ((Int64.ofNat ((0 : Fin 2) : Nat))) ((Int64.ofNat ((0 : Fin 2) : Nat))) hr53 hx54 hx55 s65 x S1 h) (by exact hr53) (by decide +kernel) (by decide +kernel) (by decide +kernel) (by decide +kernel) rfl (by (try simp only [ev_sum, ev_nv_cat]); first | done | rfl) ?_
          intro _ s66 _
          show ev_w _ _ _ _ _ [] _ _ _ _
          exact hK117  s66 _ (by exact e57) (by exact e58) (by exact e59) (by exact e60) (by exact e61) (by exact e62) (by exact e63) (by exact e64)
        · intro K112 hK112
          refine ev_r_icmp (pc := 92) (q := .ne) (o := 10) (t := 102) (c := a2 ≠ (-1)) (by decide +kernel) (ev_k_ne ha2 (by decide)) (by decide +kernel) ?_ ?_
          · intro c67
            refine ev_r_iload (pc := 102) (k := 6) (v := Int32.ofInt x4) (by decide +kernel) (by exact e31) ?_
            refine ev_r_iload (pc := 104) (k := 8) (v := Int32.ofInt x24) (by decide +kernel) (by exact e33) ?_
            refine ev_r_isub (pc := 106) (by decide +kernel) ?_
            intro x68 hx68
            refine ev_r_iload (pc := 107) (k := 5) (v := Int32.ofInt x3) (by decide +kernel) (by exact e30) ?_
            refine ev_r_iconst (pc := 109) (k := 1) (by decide +kernel) ?_
            refine ev_r_iadd (pc := 110) (by decide +kernel) ?_
            intro x69 hx69
            refine ev_r_imul (pc := 111) (by decide +kernel) ?_
            intro x70 hx70
            exact hK112 x70 hx70 a3 ha3 k hk s34 _ (by exact e26) (by exact e27) (by exact e28) (by exact e29) (by exact e30) (by exact e31) (by exact e32) (by exact e33)
          · intro c67
            refine ev_r_iload (pc := 95) (k := 5) (v := Int32.ofInt x3) (by decide +kernel) (by exact e30) ?_
            refine ev_r_iconst (pc := 97) (k := 2) (by decide +kernel) ?_
            refine ev_r_iadd (pc := 98) (by decide +kernel) ?_
            intro x71 hx71
            refine ev_r_goto (pc := 99) (o := 13) (t := 112) (by decide +kernel) (by decide +kernel) ?_
            exact hK112 x71 hx71 a3 ha3 k hk s34 _ (by exact e26) (by exact e27) (by exact e28) (by exact e29) (by exact e30) (by exact e31) (by exact e32) (by exact e33)
theorem jlt_75_74 (d : Nat) (hd : 3 ≤ d + 1) (Q : Nat) (k : Nat) (a1 : Int) (a2 : Int) (a3 : Int) (x3 : Int) (x4 : Int) (x14 : Int) (hk : ev_isOb k 6 = true) (ha1 : ev_rng a1) (ha2 : ev_rng a2) (ha3 : ev_rng a3) (hx3 : ev_rng x3) (hx4 : ev_rng x4) (hx14 : ev_rng x14)   : ∀ q : Nat, ∀ (x24 : Int) (hx24 : ev_rng x24), ∀ (s34 : ev_St) (w25 : List (Nat × Value)), ev_lk w25 0 = some (.ref k) → ev_lk w25 2 = some (.int (Int32.ofInt a1)) → ev_lk w25 3 = some (.int (Int32.ofInt a2)) → ev_lk w25 4 = some (.int (Int32.ofInt a3)) → ev_lk w25 5 = some (.int (Int32.ofInt x3)) → ev_lk w25 6 = some (.int (Int32.ofInt x4)) → ev_lk w25 7 = some (.int (Int32.ofInt x14)) → ev_lk w25 8 = some (.int (Int32.ofInt x24)) → ev_w none (ev_Mof 75) d 74 w25 [] s34 (jl_75_74 Q k a1 a2 a3 x3 x4 x14  q x24 s34) ev_eU ev_PU := by
  intro q
  induction q with
  | zero =>
    intro x24 hx24 s34 w25 e26 e27 e28 e29 e30 e31 e32 e33
    exact ev_w_none
  | succ q ih => exact jbt_75_74 d hd Q k a1 a2 a3 x3 x4 x14 hk ha1 ha2 ha3 hx3 hx4 hx14   _ ih
/-- MendBench$Program.writeRepeat(IIII)V -/
def jm_75 (Q : Nat) (k : Nat) (a0 : Int) (a1 : Int) (a2 : Int) (a3 : Int) (S : ev_St) : Option ((Unit) × ev_St) := ev_b (S.1 k 5) fun x1 => ev_ck (x1 - a0) fun x2 => ev_jn (fun (x3 : Int) (x4 : Int) (s12 : ev_St) => if x4 ≠ 0 then (ev_jn (fun (x14 : Int) (s23 : ev_St) => jl_75_74 Q k a1 a2 a3 x3 x4 x14  Q 1 s23) fun K71 => if a1 ≠ 0 then (K71 a0 s12) else (ev_jn (fun (x76 : Int) (x75 : Int) (x74 : Int) (r73 : Nat) (s85 : ev_St) => ev_bd (jm_78 Q r73 x74 x75 x76 s85) fun _ s86 => ev_ck (a0 + 1) fun x87 => K71 x87 s86) fun K63 => if a2 ≠ (-1) then (ev_ck (x3 + 1) fun x89 => ev_ck (x4 * x89) fun x90 => K63 x90 a3 a0 k s12) else (ev_ck (x3 + 2) fun x91 => K63 x91 a3 a0 k s12))) else (ev_b (ev_pI s12 k 5 a0) fun s92 => some ((), s92))) fun K20 => if a2 ≠ (-1) then (K20 x2 a2 S) else (ev_ck (a1 + 1) fun x94 => K20 x2 x94 S)
theorem jt_75 (d : Nat) (hd : 3 ≤ d) (Q : Nat) (k : Nat) (a0 : Int) (a1 : Int) (a2 : Int) (a3 : Int) (hk : ev_isOb k 6 = true) (ha0 : ev_rng a0) (ha1 : ev_rng a1) (ha2 : ev_rng a2) (ha3 : ev_rng a3) (S : ev_St) (x : Unit) (S' : ev_St) (hJ : jm_75 Q k a0 a1 a2 a3 S = some (x, S')) : ev_Ref d 75 [.ref k, .int (Int32.ofInt a0), .int (Int32.ofInt a1), .int (Int32.ofInt a2), .int (Int32.ofInt a3)] S (ev_eU x) S' (ev_PU x) := by
  obtain ⟨d, rfl⟩ : ∃ e, d = e + 1 := ⟨d - 1, by omega⟩
  refine ev_ref_of (P := ev_PU) (lv := [(0, .ref k), (1, .int (Int32.ofInt a0)), (2, .int (Int32.ofInt a1)), (3, .int (Int32.ofInt a2)), (4, .int (Int32.ofInt a3))]) (by decide +kernel) (by (try simp only [ev_sum, ev_nv_cat]); first | done | rfl) (by (try simp only [lv_args, ev_nv_cat]); first | done | rfl) ?_ x S' hJ
  unfold jm_75
  refine ev_r_aload_n (pc := 0) (k := 0) (v := .ref k) trivial (by decide +kernel) (by rfl) ?_
  refine ev_r_getI (pc := 1) (y := 29) (ci := 6) (f := 5) (fin := 0) (by decide +kernel) (by decide +kernel) (by exact hk) rfl ?_
  intro x1 hx1
  refine ev_r_iload_n (pc := 4) (k := 1) (v := Int32.ofInt a0) (by decide +kernel) (by rfl) ?_
  refine ev_r_isub (pc := 5) (by decide +kernel) ?_
  intro x2 hx2
  refine ev_r_istore (pc := 6) (k := 5) (by decide +kernel) (by decide +kernel) rfl ?_
  refine ev_r_iload_n (pc := 8) (k := 3) (v := Int32.ofInt a2) (by decide +kernel) (by exact (ev_l1 (by rfl) (by decide) (by decide))) ?_
  refine ev_r_iconst (pc := 9) (k := -1) (by decide +kernel) ?_
  refine ev_r_jn (Q := fun K => ∀ (x3 : Int) (hx3 : ev_rng x3), ∀ (x4 : Int) (hx4 : ev_rng x4), ∀ (s12 : ev_St) (w5 : List (Nat × Value)), ev_lk w5 0 = some (.ref k) → ev_lk w5 1 = some (.int (Int32.ofInt a0)) → ev_lk w5 2 = some (.int (Int32.ofInt a1)) → ev_lk w5 3 = some (.int (Int32.ofInt a2)) → ev_lk w5 4 = some (.int (Int32.ofInt a3)) → ev_lk w5 5 = some (.int (Int32.ofInt x3)) → ev_w none (ev_Mof 75) d 20 w5 [.int (Int32.ofInt x4)] s12 (K x3 x4 s12) ev_eU ev_PU) ?_ ?_
  · intro x3 hx3 x4 hx4 s12 w5 e6 e7 e8 e9 e10 e11
    refine ev_r_istore (pc := 20) (k := 6) (by decide +kernel) (by decide +kernel) rfl ?_
    refine ev_r_iload (pc := 22) (k := 6) (v := Int32.ofInt x4) (by decide +kernel) (by exact ev_lk_st1_self) ?_
    refine ev_r_if (pc := 24) (q := .ne) (o := 9) (t := 33) (c := x4 ≠ 0) (by decide +kernel) (ev_k_ne hx4 ev_rng0) (by decide +kernel) ?_ ?_
    · intro c13
      refine ev_r_iload_n (pc := 33) (k := 1) (v := Int32.ofInt a0) (by decide +kernel) (by exact (ev_l1 e7 (by decide) (by decide))) ?_
      refine ev_r_istore (pc := 34) (k := 7) (by decide +kernel) (by decide +kernel) rfl ?_
      refine ev_r_iload_n (pc := 36) (k := 2) (v := Int32.ofInt a1) (by decide +kernel) (by exact (ev_l1 (ev_l1 e8 (by decide) (by decide)) (by decide) (by decide))) ?_
      refine ev_r_jn (Q := fun K => ∀ (x14 : Int) (hx14 : ev_rng x14), ∀ (s23 : ev_St) (w15 : List (Nat × Value)), ev_lk w15 0 = some (.ref k) → ev_lk w15 2 = some (.int (Int32.ofInt a1)) → ev_lk w15 3 = some (.int (Int32.ofInt a2)) → ev_lk w15 4 = some (.int (Int32.ofInt a3)) → ev_lk w15 5 = some (.int (Int32.ofInt x3)) → ev_lk w15 6 = some (.int (Int32.ofInt x4)) → ev_lk w15 7 = some (.int (Int32.ofInt x14)) → ev_w none (ev_Mof 75) d 71 w15 [] s23 (K x14 s23) ev_eU ev_PU) ?_ ?_
      · intro x14 hx14 s23 w15 e16 e17 e18 e19 e20 e21 e22
        refine ev_r_iconst (pc := 71) (k := 1) (by decide +kernel) ?_
        refine ev_r_istore (pc := 72) (k := 8) (by decide +kernel) (by decide +kernel) rfl ?_
        exact jlt_75_74 d hd Q k a1 a2 a3 x3 x4 x14 hk ha1 ha2 ha3 hx3 hx4 hx14   Q 1 (by decide) s23 _ (by exact (ev_l1 e16 (by decide) (by decide))) (by exact (ev_l1 e17 (by decide) (by decide))) (by exact (ev_l1 e18 (by decide) (by decide))) (by exact (ev_l1 e19 (by decide) (by decide))) (by exact (ev_l1 e20 (by decide) (by decide))) (by exact (ev_l1 e21 (by decide) (by decide))) (by exact (ev_lk_st1 e22 (by decide) rfl)) (by exact ev_lk_st1_self)
      · intro K71 hK71
        refine ev_r_if (pc := 37) (q := .ne) (o := 34) (t := 71) (c := a1 ≠ 0) (by decide +kernel) (ev_k_ne ha1 ev_rng0) (by decide +kernel) ?_ ?_
        · intro c72
          exact hK71 a0 ha0 s12 _ (by exact (ev_l1 (ev_l1 e6 (by decide) (by decide)) (by decide) (by decide))) (by exact (ev_l1 (ev_l1 e8 (by decide) (by decide)) (by decide) (by decide))) (by exact (ev_l1 (ev_l1 e9 (by decide) (by decide)) (by decide) (by decide))) (by exact (ev_l1 (ev_l1 e10 (by decide) (by decide)) (by decide) (by decide))) (by exact (ev_l1 (ev_lk_st1 e11 (by decide) rfl) (by decide) (by decide))) (by exact (ev_lk_st1 ev_lk_st1_self (by decide) rfl)) (by exact ev_lk_st1_self)
        · intro c72
          refine ev_r_aload_n (pc := 40) (k := 0) (v := .ref k) trivial (by decide +kernel) (by exact (ev_l1 (ev_l1 e6 (by decide) (by decide)) (by decide) (by decide))) ?_
          refine ev_r_iload_n (pc := 41) (k := 1) (v := Int32.ofInt a0) (by decide +kernel) (by exact (ev_l1 (ev_l1 e7 (by decide) (by decide)) (by decide) (by decide))) ?_
          refine ev_r_iload (pc := 42) (k := 4) (v := Int32.ofInt a3) (by decide +kernel) (by exact (ev_l1 (ev_l1 e10 (by decide) (by decide)) (by decide) (by decide))) ?_
          refine ev_r_iload_n (pc := 44) (k := 3) (v := Int32.ofInt a2) (by decide +kernel) (by exact (ev_l1 (ev_l1 e9 (by decide) (by decide)) (by decide) (by decide))) ?_
          refine ev_r_iconst (pc := 45) (k := -1) (by decide +kernel) ?_
          refine ev_r_jn (Q := fun K => ∀ (x76 : Int) (hx76 : ev_rng x76), ∀ (x75 : Int) (hx75 : ev_rng x75), ∀ (x74 : Int) (hx74 : ev_rng x74), ∀ (r73 : Nat) (hr73 : ev_isOb r73 6 = true), ∀ (s85 : ev_St) (w77 : List (Nat × Value)), ev_lk w77 0 = some (.ref k) → ev_lk w77 1 = some (.int (Int32.ofInt a0)) → ev_lk w77 2 = some (.int (Int32.ofInt a1)) → ev_lk w77 3 = some (.int (Int32.ofInt a2)) → ev_lk w77 4 = some (.int (Int32.ofInt a3)) → ev_lk w77 5 = some (.int (Int32.ofInt x3)) → ev_lk w77 6 = some (.int (Int32.ofInt x4)) → ev_w none (ev_Mof 75) d 63 w77 [.int (Int32.ofInt x76), .int (Int32.ofInt x75), .int (Int32.ofInt x74), .ref r73] s85 (K x76 x75 x74 r73 s85) ev_eU ev_PU) ?_ ?_
          · intro x76 hx76 x75 hx75 x74 hx74 r73 hr73 s85 w77 e78 e79 e80 e81 e82 e83 e84
            refine ev_r_virt (pc := 63) (y := 88) (mi := 78) (na := 3) (k := r73) (as := [.int (Int32.ofInt x74), .int (Int32.ofInt x75), .int (Int32.ofInt x76)]) (rest := []) (encc := ev_oU) (Q := ev_PU) (fun x S1 h => jt_78 d (by omega) Q r73 x74 x75 x76 hr73 hx74 hx75 hx76 s85 x S1 h) (by exact hr73) (by decide +kernel) (by decide +kernel) (by decide +kernel) (by decide +kernel) rfl (by (try simp only [ev_sum, ev_nv_cat]); first | done | rfl) ?_
            intro _ s86 _
            show ev_w _ _ _ _ _ [] _ _ _ _
            refine ev_r_iload_n (pc := 66) (k := 1) (v := Int32.ofInt a0) (by decide +kernel) (by exact e79) ?_
            refine ev_r_iconst (pc := 67) (k := 1) (by decide +kernel) ?_
            refine ev_r_iadd (pc := 68) (by decide +kernel) ?_
            intro x87 hx87
            refine ev_r_istore (pc := 69) (k := 7) (by decide +kernel) (by decide +kernel) rfl ?_
            exact hK71 x87 hx87 s86 _ (by exact (ev_l1 e78 (by decide) (by decide))) (by exact (ev_l1 e80 (by decide) (by decide))) (by exact (ev_l1 e81 (by decide) (by decide))) (by exact (ev_l1 e82 (by decide) (by decide))) (by exact (ev_l1 e83 (by decide) (by decide))) (by exact (ev_lk_st1 e84 (by decide) rfl)) (by exact ev_lk_st1_self)
          · intro K63 hK63
            refine ev_r_icmp (pc := 46) (q := .ne) (o := 10) (t := 56) (c := a2 ≠ (-1)) (by decide +kernel) (ev_k_ne ha2 (by decide)) (by decide +kernel) ?_ ?_
            · intro c88
              refine ev_r_iload (pc := 56) (k := 6) (v := Int32.ofInt x4) (by decide +kernel) (by exact (ev_lk_st1 ev_lk_st1_self (by decide) rfl)) ?_
              refine ev_r_iload (pc := 58) (k := 5) (v := Int32.ofInt x3) (by decide +kernel) (by exact (ev_l1 (ev_lk_st1 e11 (by decide) rfl) (by decide) (by decide))) ?_
              refine ev_r_iconst (pc := 60) (k := 1) (by decide +kernel) ?_
              refine ev_r_iadd (pc := 61) (by decide +kernel) ?_
              intro x89 hx89
              refine ev_r_imul (pc := 62) (by decide +kernel) ?_
              intro x90 hx90
              exact hK63 x90 hx90 a3 ha3 a0 ha0 k hk s12 _ (by exact (ev_l1 (ev_l1 e6 (by decide) (by decide)) (by decide) (by decide))) (by exact (ev_l1 (ev_l1 e7 (by decide) (by decide)) (by decide) (by decide))) (by exact (ev_l1 (ev_l1 e8 (by decide) (by decide)) (by decide) (by decide))) (by exact (ev_l1 (ev_l1 e9 (by decide) (by decide)) (by decide) (by decide))) (by exact (ev_l1 (ev_l1 e10 (by decide) (by decide)) (by decide) (by decide))) (by exact (ev_l1 (ev_lk_st1 e11 (by decide) rfl) (by decide) (by decide))) (by exact (ev_lk_st1 ev_lk_st1_self (by decide) rfl))
            · intro c88
              refine ev_r_iload (pc := 49) (k := 5) (v := Int32.ofInt x3) (by decide +kernel) (by exact (ev_l1 (ev_lk_st1 e11 (by decide) rfl) (by decide) (by decide))) ?_
              refine ev_r_iconst (pc := 51) (k := 2) (by decide +kernel) ?_
              refine ev_r_iadd (pc := 52) (by decide +kernel) ?_
              intro x91 hx91
              refine ev_r_goto (pc := 53) (o := 10) (t := 63) (by decide +kernel) (by decide +kernel) ?_
              exact hK63 x91 hx91 a3 ha3 a0 ha0 k hk s12 _ (by exact (ev_l1 (ev_l1 e6 (by decide) (by decide)) (by decide) (by decide))) (by exact (ev_l1 (ev_l1 e7 (by decide) (by decide)) (by decide) (by decide))) (by exact (ev_l1 (ev_l1 e8 (by decide) (by decide)) (by decide) (by decide))) (by exact (ev_l1 (ev_l1 e9 (by decide) (by decide)) (by decide) (by decide))) (by exact (ev_l1 (ev_l1 e10 (by decide) (by decide)) (by decide) (by decide))) (by exact (ev_l1 (ev_lk_st1 e11 (by decide) rfl) (by decide) (by decide))) (by exact (ev_lk_st1 ev_lk_st1_self (by decide) rfl))
    · intro c13
      refine ev_r_aload_n (pc := 27) (k := 0) (v := .ref k) trivial (by decide +kernel) (by exact (ev_l1 e6 (by decide) (by decide))) ?_
      refine ev_r_iload_n (pc := 28) (k := 1) (v := Int32.ofInt a0) (by decide +kernel) (by exact (ev_l1 e7 (by decide) (by decide))) ?_
      refine ev_r_putI (pc := 29) (y := 29) (ci := 6) (f := 5) ha0 (by decide +kernel) (by decide +kernel) (by exact hk) rfl rfl ?_
      intro s92
      exact ev_r_return (pc := 32) (x := ()) trivial (by decide +kernel) (by decide +kernel) rfl
  · intro K20 hK20
    refine ev_r_icmp (pc := 10) (q := .ne) (o := 9) (t := 19) (c := a2 ≠ (-1)) (by decide +kernel) (ev_k_ne ha2 (by decide)) (by decide +kernel) ?_ ?_
    · intro c93
      refine ev_r_iload_n (pc := 19) (k := 3) (v := Int32.ofInt a2) (by decide +kernel) (by exact (ev_l1 (by rfl) (by decide) (by decide))) ?_
      exact hK20 x2 hx2 a2 ha2 S _ (by exact (ev_l1 (by rfl) (by decide) (by decide))) (by exact (ev_l1 (by rfl) (by decide) (by decide))) (by exact (ev_l1 (by rfl) (by decide) (by decide))) (by exact (ev_l1 (by rfl) (by decide) (by decide))) (by exact (ev_lk_st1 (by rfl) (by decide) rfl)) (by exact ev_lk_st1_self)
    · intro c93
      refine ev_r_iload_n (pc := 13) (k := 2) (v := Int32.ofInt a1) (by decide +kernel) (by exact (ev_l1 (by rfl) (by decide) (by decide))) ?_
      refine ev_r_iconst (pc := 14) (k := 1) (by decide +kernel) ?_
      refine ev_r_iadd (pc := 15) (by decide +kernel) ?_
      intro x94 hx94
      refine ev_r_goto (pc := 16) (o := 4) (t := 20) (by decide +kernel) (by decide +kernel) ?_
      exact hK20 x2 hx2 x94 hx94 S _ (by exact (ev_l1 (by rfl) (by decide) (by decide))) (by exact (ev_l1 (by rfl) (by decide) (by decide))) (by exact (ev_l1 (by rfl) (by decide) (by decide))) (by exact (ev_l1 (by rfl) (by decide) (by decide))) (by exact (ev_lk_st1 (by rfl) (by decide) rfl)) (by exact ev_lk_st1_self)
def jb_74_11 (Q : Nat) (k : Nat) (a0 : Nat) (a2 : Nat)  (K11 : Int → Int → ev_St → Option ((Unit) × ev_St)) (x3 : Int) (x4 : Int) (s11 : ev_St) : Option ((Unit) × ev_St) := if 400 ≤ x4 then (some ((), s11)) else (ev_if (a0 ≠ 0) (ev_bd (jm_59 Q ((a0 - 1)) x3 s11) fun x15 s14 => if x15 = 0 then (some ((), s14)) else (ev_if (a0 ≠ 0) (ev_if ((0 : Int) ≤ x3 ∧ x3 < (ev_aln (((a0 - 1) + 5)) : Int)) (ev_b (s14.1 (((a0 - 1) + 5)) (Int.toNat x3)) fun x18 => ev_if (a0 ≠ 0) (ev_bd (jm_59 Q ((a0 - 1)) x18 s14) fun x21 s20 => ev_jn (fun (x22 : Int) (x23 : Int) (s30 : ev_St) => ev_bd (jm_70 Q k x23 s30) fun x32 s31 => ev_jn (fun  (s39 : ev_St) => ev_ck (x4 + 1) fun x40 => K11 x22 x40 s39) fun K81 => if x32 = 0 then (K81  s31) else (ev_b (s31.1 k 5) fun x42 => ev_ck (x42 - x23) fun x43 => ev_if ((0 : Int) ≤ x23 ∧ x23 < (ev_aln ((k + 2)) : Int)) (ev_b (ev_pI s31 ((k + 2)) (Int.toNat x23) x43) fun s44 => K81  s44))) fun K56 => if x21 = 0 then (K56 x18 ((-1)) s20) else (ev_if (a2 ≠ 0) (ev_if ((0 : Int) ≤ x18 ∧ x18 < (ev_aln ((a2 - 1)) : Int)) (ev_b (s20.1 ((a2 - 1)) (Int.toNat x18)) fun x47 => ev_ck (x47 - 1) fun x48 => K56 x18 x48 s20)))))))))
def jl_74_11 (Q : Nat) (k : Nat) (a0 : Nat) (a2 : Nat)  : Nat → Int → Int → ev_St → Option ((Unit) × ev_St)
  | 0 => fun _ _ _ => none
  | q + 1 => jb_74_11 Q k a0 a2  (jl_74_11 Q k a0 a2  q)
theorem jbt_74_11 (d : Nat) (hd : 2 ≤ d + 1) (Q : Nat) (k : Nat) (a0 : Nat) (a2 : Nat) (hk : ev_isOb k 6 = true) (ha0 : a0 = 0 ∨ ev_isOb (a0 - 1) 5 = true) (ha2 : a2 = 0 ∨ ev_isAb (a2 - 1) 1 .int = true)   (K11 : Int → Int → ev_St → Option ((Unit) × ev_St)) (hK11 : ∀ (x3 : Int) (hx3 : ev_rng x3), ∀ (x4 : Int) (hx4 : ev_rng x4), ∀ (s11 : ev_St) (w5 : List (Nat × Value)), ev_lk w5 0 = some (.ref k) → ev_lk w5 1 = some (ev_nv a0) → ev_lk w5 3 = some (ev_nv a2) → ev_lk w5 4 = some (.int (Int32.ofInt x3)) → ev_lk w5 5 = some (.int (Int32.ofInt x4)) → ev_w none (ev_Mof 74) d 11 w5 [] s11 (K11 x3 x4 s11) ev_eU ev_PU) : ∀ (x3 : Int) (hx3 : ev_rng x3), ∀ (x4 : Int) (hx4 : ev_rng x4), ∀ (s11 : ev_St) (w5 : List (Nat × Value)), ev_lk w5 0 = some (.ref k) → ev_lk w5 1 = some (ev_nv a0) → ev_lk w5 3 = some (ev_nv a2) → ev_lk w5 4 = some (.int (Int32.ofInt x3)) → ev_lk w5 5 = some (.int (Int32.ofInt x4)) → ev_w none (ev_Mof 74) d 11 w5 [] s11 (jb_74_11 Q k a0 a2  K11 x3 x4 s11) ev_eU ev_PU := by
  intro x3 hx3 x4 hx4 s11 w5 e6 e7 e8 e9 e10
  unfold jb_74_11
  refine ev_r_iload (pc := 11) (k := 5) (v := Int32.ofInt x4) (by decide +kernel) (by exact e10) ?_
  refine ev_r_sipush (pc := 13) (k := 400) (by decide +kernel) (by decide +kernel) ?_
  refine ev_r_icmp (pc := 16) (q := .ge) (o := 71) (t := 87) (c := 400 ≤ x4) (by decide +kernel) (ev_k_ge hx4 (by decide)) (by decide +kernel) ?_ ?_
  · intro c12
    exact ev_r_return (pc := 87) (x := ()) trivial (by decide +kernel) (by decide +kernel) rfl
  · intro c12
    refine ev_r_aload_n (pc := 19) (k := 1) (v := ev_nv a0) (ev_isR_nv _) (by decide +kernel) (by exact e7) ?_
    refine ev_r_iload (pc := 20) (k := 4) (v := Int32.ofInt x3) (by decide +kernel) (by exact e9) ?_
    refine ev_r_chk ?_
    intro c13
    refine ev_r_dr (r := a0) (fun v => [.int (Int32.ofInt x3), v]) c13 ?_
    refine ev_r_virt (pc := 22) (y := 70) (mi := 59) (na := 1) (k := (a0 - 1)) (as := [.int (Int32.ofInt x3)]) (rest := []) (encc := ev_oI) (Q := ev_bl) (fun x S1 h => jt_59 d (by omega) Q ((a0 - 1)) x3 (ha0.resolve_left c13) hx3 s11 x S1 h) (by exact (ha0.resolve_left c13)) (by decide +kernel) (by decide +kernel) (by decide +kernel) (by decide +kernel) rfl (by (try simp only [ev_sum, ev_nv_cat]); first | done | rfl) ?_
    intro x15 s14 hx15
    replace hx15 := ev_bl_rng hx15
    show ev_w _ _ _ _ _ [.int (Int32.ofInt x15)] _ _ _ _
    refine ev_r_if (pc := 25) (q := .eq) (o := 62) (t := 87) (c := x15 = 0) (by decide +kernel) (ev_k_eq hx15 ev_rng0) (by decide +kernel) ?_ ?_
    · intro c16
      exact ev_r_return (pc := 87) (x := ()) trivial (by decide +kernel) (by decide +kernel) rfl
    · intro c16
      refine ev_r_aload_n (pc := 28) (k := 1) (v := ev_nv a0) (ev_isR_nv _) (by decide +kernel) (by exact e7) ?_
      refine ev_r_chk ?_
      intro c17
      refine ev_r_dr (r := a0) (fun v => [v]) c17 ?_
      refine ev_r_getC (pc := 29) (y := 73) (ci := 5) (f := 4) (fin := 2) (k' := ((a0 - 1) + 5)) (by decide +kernel) (by decide +kernel) (by exact (ha0.resolve_left c17)) rfl rfl ?_
      refine ev_r_iload (pc := 32) (k := 4) (v := Int32.ofInt x3) (by decide +kernel) (by exact e9) ?_
      refine ev_r_iald (pc := 34) hx3 (by decide +kernel) (by exact (ev_fo_5_4 (ha0.resolve_left c17))) ?_
      intro x18 hx18
      refine ev_r_istore (pc := 35) (k := 4) (by decide +kernel) (by decide +kernel) rfl ?_
      refine ev_r_aload_n (pc := 37) (k := 1) (v := ev_nv a0) (ev_isR_nv _) (by decide +kernel) (by exact (ev_l1 e7 (by decide) (by decide))) ?_
      refine ev_r_iload (pc := 38) (k := 4) (v := Int32.ofInt x18) (by decide +kernel) (by exact ev_lk_st1_self) ?_
      refine ev_r_chk ?_
      intro c19
      refine ev_r_dr (r := a0) (fun v => [.int (Int32.ofInt x18), v]) c19 ?_
      refine ev_r_virt (pc := 40) (y := 70) (mi := 59) (na := 1) (k := (a0 - 1)) (as := [.int (Int32.ofInt x18)]) (rest := []) (encc := ev_oI) (Q := ev_bl) (fun x S1 h => jt_59 d (by omega) Q ((a0 - 1)) x18 (ha0.resolve_left c19) hx18 s14 x S1 h) (by exact (ha0.resolve_left c19)) (by decide +kernel) (by decide +kernel) (by decide +kernel) (by decide +kernel) rfl (by (try simp only [ev_sum, ev_nv_cat]); first | done | rfl) ?_
      intro x21 s20 hx21
      replace hx21 := ev_bl_rng hx21
      show ev_w _ _ _ _ _ [.int (Int32.ofInt x21)] _ _ _ _
      refine ev_r_jn (Q := fun K => ∀ (x22 : Int) (hx22 : ev_rng x22), ∀ (x23 : Int) (hx23 : ev_rng x23), ∀ (s30 : ev_St) (w24 : List (Nat × Value)), ev_lk w24 0 = some (.ref k) → ev_lk w24 1 = some (ev_nv a0) → ev_lk w24 3 = some (ev_nv a2) → ev_lk w24 4 = some (.int (Int32.ofInt x22)) → ev_lk w24 5 = some (.int (Int32.ofInt x4)) → ev_w none (ev_Mof 74) d 56 w24 [.int (Int32.ofInt x23)] s30 (K x22 x23 s30) ev_eU ev_PU) ?_ ?_
      · intro x22 hx22 x23 hx23 s30 w24 e25 e26 e27 e28 e29
        refine ev_r_istore (pc := 56) (k := 6) (by decide +kernel) (by decide +kernel) rfl ?_
        refine ev_r_aload_n (pc := 58) (k := 0) (v := .ref k) trivial (by decide +kernel) (by exact (ev_l1 e25 (by decide) (by decide))) ?_
        refine ev_r_iload (pc := 59) (k := 6) (v := Int32.ofInt x23) (by decide +kernel) (by exact ev_lk_st1_self) ?_
        refine ev_r_virt (pc := 61) (y := 95) (mi := 70) (na := 1) (k := k) (as := [.int (Int32.ofInt x23)]) (rest := []) (encc := ev_oI) (Q := ev_bl) (fun x S1 h => jt_70 d (by omega) Q k x23 hk hx23 s30 x S1 h) (by exact hk) (by decide +kernel) (by decide +kernel) (by decide +kernel) (by decide +kernel) rfl (by (try simp only [ev_sum, ev_nv_cat]); first | done | rfl) ?_
        intro x32 s31 hx32
        replace hx32 := ev_bl_rng hx32
        show ev_w _ _ _ _ _ [.int (Int32.ofInt x32)] _ _ _ _
        refine ev_r_jn (Q := fun K => ∀ (s39 : ev_St) (w33 : List (Nat × Value)), ev_lk w33 0 = some (.ref k) → ev_lk w33 1 = some (ev_nv a0) → ev_lk w33 3 = some (ev_nv a2) → ev_lk w33 4 = some (.int (Int32.ofInt x22)) → ev_lk w33 5 = some (.int (Int32.ofInt x4)) → ev_w none (ev_Mof 74) d 81 w33 [] s39 (K  s39) ev_eU ev_PU) ?_ ?_
        · intro  s39 w33 e34 e35 e36 e37 e38
          refine ev_r_iinc (pc := 81) (k := 5) (c := 1) (x := x4) (by decide +kernel) (by decide +kernel) (by exact e38) (fun _ => rfl) ?_
          intro x40 hx40
          refine ev_r_goto (pc := 84) (o := (-73)) (t := 11) (by decide +kernel) (by decide +kernel) ?_
          exact hK11 x22 hx22 x40 hx40 s39 _ (by exact (ev_l1 e34 (by decide) (by decide))) (by exact (ev_l1 e35 (by decide) (by decide))) (by exact (ev_l1 e36 (by decide) (by decide))) (by exact (ev_lk_st1 e37 (by decide) rfl)) (by exact ev_lk_st1_self)
        · intro K81 hK81
          refine ev_r_if (pc := 64) (q := .eq) (o := 17) (t := 81) (c := x32 = 0) (by decide +kernel) (ev_k_eq hx32 ev_rng0) (by decide +kernel) ?_ ?_
          · intro c41
            exact hK81  s31 _ (by exact (ev_l1 e25 (by decide) (by decide))) (by exact (ev_l1 e26 (by decide) (by decide))) (by exact (ev_l1 e27 (by decide) (by decide))) (by exact (ev_l1 e28 (by decide) (by decide))) (by exact (ev_lk_st1 e29 (by decide) rfl))
          · intro c41
            refine ev_r_aload_n (pc := 67) (k := 0) (v := .ref k) trivial (by decide +kernel) (by exact (ev_l1 e25 (by decide) (by decide))) ?_
            refine ev_r_getC (pc := 68) (y := 15) (ci := 6) (f := 1) (fin := 1) (k' := (k + 2)) (by decide +kernel) (by decide +kernel) (by exact hk) rfl rfl ?_
            refine ev_r_iload (pc := 71) (k := 6) (v := Int32.ofInt x23) (by decide +kernel) (by exact ev_lk_st1_self) ?_
            refine ev_r_aload_n (pc := 73) (k := 0) (v := .ref k) trivial (by decide +kernel) (by exact (ev_l1 e25 (by decide) (by decide))) ?_
            refine ev_r_getI (pc := 74) (y := 29) (ci := 6) (f := 5) (fin := 0) (by decide +kernel) (by decide +kernel) (by exact hk) rfl ?_
            intro x42 hx42
            refine ev_r_iload (pc := 77) (k := 6) (v := Int32.ofInt x23) (by decide +kernel) (by exact ev_lk_st1_self) ?_
            refine ev_r_isub (pc := 79) (by decide +kernel) ?_
            intro x43 hx43
            refine ev_r_iast (pc := 80) hx43 hx23 (by decide +kernel) (by exact (ev_fo_6_1 hk)) ?_
            intro s44
            exact hK81  s44 _ (by exact (ev_l1 e25 (by decide) (by decide))) (by exact (ev_l1 e26 (by decide) (by decide))) (by exact (ev_l1 e27 (by decide) (by decide))) (by exact (ev_l1 e28 (by decide) (by decide))) (by exact (ev_lk_st1 e29 (by decide) rfl))
      · intro K56 hK56
        refine ev_r_if (pc := 43) (q := .eq) (o := 12) (t := 55) (c := x21 = 0) (by decide +kernel) (ev_k_eq hx21 ev_rng0) (by decide +kernel) ?_ ?_
        · intro c45
          refine ev_r_iconst (pc := 55) (k := -1) (by decide +kernel) ?_
          exact hK56 x18 hx18 ((-1)) (by decide) s20 _ (by exact (ev_l1 e6 (by decide) (by decide))) (by exact (ev_l1 e7 (by decide) (by decide))) (by exact (ev_lk_st1 e8 (by decide) (ev_nv_cat _))) (by exact ev_lk_st1_self) (by exact (ev_l1 e10 (by decide) (by decide)))
        · intro c45
          refine ev_r_aload_n (pc := 46) (k := 3) (v := ev_nv a2) (ev_isR_nv _) (by decide +kernel) (by exact (ev_lk_st1 e8 (by decide) (ev_nv_cat _))) ?_
          refine ev_r_iload (pc := 47) (k := 4) (v := Int32.ofInt x18) (by decide +kernel) (by exact ev_lk_st1_self) ?_
          refine ev_r_chk ?_
          intro c46
          refine ev_r_dr (r := a2) (fun v => [.int (Int32.ofInt x18), v]) c46 ?_
          refine ev_r_iald (pc := 49) hx18 (by decide +kernel) (by exact (ha2.resolve_left c46)) ?_
          intro x47 hx47
          refine ev_r_iconst (pc := 50) (k := 1) (by decide +kernel) ?_
          refine ev_r_isub (pc := 51) (by decide +kernel) ?_
          intro x48 hx48
          refine ev_r_goto (pc := 52) (o := 4) (t := 56) (by decide +kernel) (by decide +kernel) ?_
          exact hK56 x18 hx18 x48 hx48 s20 _ (by exact (ev_l1 e6 (by decide) (by decide))) (by exact (ev_l1 e7 (by decide) (by decide))) (by exact (ev_lk_st1 e8 (by decide) (ev_nv_cat _))) (by exact ev_lk_st1_self) (by exact (ev_l1 e10 (by decide) (by decide)))
theorem jlt_74_11 (d : Nat) (hd : 2 ≤ d + 1) (Q : Nat) (k : Nat) (a0 : Nat) (a2 : Nat) (hk : ev_isOb k 6 = true) (ha0 : a0 = 0 ∨ ev_isOb (a0 - 1) 5 = true) (ha2 : a2 = 0 ∨ ev_isAb (a2 - 1) 1 .int = true)   : ∀ q : Nat, ∀ (x3 : Int) (hx3 : ev_rng x3), ∀ (x4 : Int) (hx4 : ev_rng x4), ∀ (s11 : ev_St) (w5 : List (Nat × Value)), ev_lk w5 0 = some (.ref k) → ev_lk w5 1 = some (ev_nv a0) → ev_lk w5 3 = some (ev_nv a2) → ev_lk w5 4 = some (.int (Int32.ofInt x3)) → ev_lk w5 5 = some (.int (Int32.ofInt x4)) → ev_w none (ev_Mof 74) d 11 w5 [] s11 (jl_74_11 Q k a0 a2  q x3 x4 s11) ev_eU ev_PU := by
  intro q
  induction q with
  | zero =>
    intro x3 hx3 x4 hx4 s11 w5 e6 e7 e8 e9 e10
    exact ev_w_none
  | succ q ih => exact jbt_74_11 d hd Q k a0 a2 hk ha0 ha2   _ ih
/-- MendBench$Program.aimJumps(LMendBench$Pattern;I[I)V -/
def jm_74 (Q : Nat) (k : Nat) (a0 : Nat) (a1 : Int) (a2 : Nat) (S : ev_St) : Option ((Unit) × ev_St) := ev_if (a0 ≠ 0) (ev_if ((0 : Int) ≤ a1 ∧ a1 < (ev_aln (((a0 - 1) + 4)) : Int)) (ev_b (S.1 (((a0 - 1) + 4)) (Int.toNat a1)) fun x2 => jl_74_11 Q k a0 a2  Q x2 0 S))
theorem jt_74 (d : Nat) (hd : 2 ≤ d) (Q : Nat) (k : Nat) (a0 : Nat) (a1 : Int) (a2 : Nat) (hk : ev_isOb k 6 = true) (ha0 : a0 = 0 ∨ ev_isOb (a0 - 1) 5 = true) (ha1 : ev_rng a1) (ha2 : a2 = 0 ∨ ev_isAb (a2 - 1) 1 .int = true) (S : ev_St) (x : Unit) (S' : ev_St) (hJ : jm_74 Q k a0 a1 a2 S = some (x, S')) : ev_Ref d 74 [.ref k, ev_nv a0, .int (Int32.ofInt a1), ev_nv a2] S (ev_eU x) S' (ev_PU x) := by
  obtain ⟨d, rfl⟩ : ∃ e, d = e + 1 := ⟨d - 1, by omega⟩
  refine ev_ref_of (P := ev_PU) (lv := [(0, .ref k), (1, ev_nv a0), (2, .int (Int32.ofInt a1)), (3, ev_nv a2)]) (by decide +kernel) (by (try simp only [ev_sum, ev_nv_cat]); first | done | rfl) (by (try simp only [lv_args, ev_nv_cat]); first | done | rfl) ?_ x S' hJ
  unfold jm_74
  refine ev_r_aload_n (pc := 0) (k := 1) (v := ev_nv a0) (ev_isR_nv _) (by decide +kernel) (by rfl) ?_
  refine ev_r_chk ?_
  intro c1
  refine ev_r_dr (r := a0) (fun v => [v]) c1 ?_
  refine ev_r_getC (pc := 1) (y := 67) (ci := 5) (f := 3) (fin := 2) (k' := ((a0 - 1) + 4)) (by decide +kernel) (by decide +kernel) (by exact (ha0.resolve_left c1)) rfl rfl ?_
  refine ev_r_iload_n (pc := 4) (k := 2) (v := Int32.ofInt a1) (by decide +kernel) (by rfl) ?_
  refine ev_r_iald (pc := 5) ha1 (by decide +kernel) (by exact (ev_fo_5_3 (ha0.resolve_left c1))) ?_
  intro x2 hx2
  refine ev_r_istore (pc := 6) (k := 4) (by decide +kernel) (by decide +kernel) rfl ?_
  refine ev_r_iconst (pc := 8) (k := 0) (by decide +kernel) ?_
  refine ev_r_istore (pc := 9) (k := 5) (by decide +kernel) (by decide +kernel) rfl ?_
  exact jlt_74_11 d hd Q k a0 a2 hk ha0 ha2   Q x2 hx2 0 (by decide) S _ (by exact (ev_l1 (ev_l1 (by rfl) (by decide) (by decide)) (by decide) (by decide))) (by exact (ev_l1 (ev_l1 (by rfl) (by decide) (by decide)) (by decide) (by decide))) (by exact (ev_l1 (ev_lk_st1 (by rfl) (by decide) (ev_nv_cat _)) (by decide) (by decide))) (by exact (ev_lk_st1 ev_lk_st1_self (by decide) rfl)) (by exact ev_lk_st1_self)
/-- MendBench$Program.writeNode(LMendBench$Pattern;I[I)V -/
def jm_73 (Q : Nat) (k : Nat) (a0 : Nat) (a1 : Int) (a2 : Nat) (S : ev_St) : Option ((Unit) × ev_St) := ev_if (a0 ≠ 0) (ev_if ((0 : Int) ≤ a1 ∧ a1 < (ev_aln (((a0 - 1) + 1)) : Int)) (ev_b (S.1 (((a0 - 1) + 1)) (Int.toNat a1)) fun x2 => ev_if (a0 ≠ 0) (ev_if ((0 : Int) ≤ a1 ∧ a1 < (ev_aln (((a0 - 1) + 4)) : Int)) (ev_b (S.1 (((a0 - 1) + 4)) (Int.toNat a1)) fun x4 => ev_jn (fun (x5 : Int) (s12 : ev_St) => ev_if (a2 ≠ 0) (ev_if ((0 : Int) ≤ a1 ∧ a1 < (ev_aln ((a2 - 1)) : Int)) (ev_b (s12.1 ((a2 - 1)) (Int.toNat a1)) fun x14 => if x5 ≠ 0 then (ev_bd (jm_61 Q x5 s12) fun x17 s16 => if x17 = 0 then (ev_bd (jm_62 Q x5 s16) fun x20 s19 => if x20 = 0 then (if x5 ≠ 15 then (ev_bd (jm_74 Q k a0 a1 a2 s19) fun _ s23 => if x5 ≠ 18 then (some ((), s23)) else (ev_if (a0 ≠ 0) (ev_if ((0 : Int) ≤ a1 ∧ a1 < (ev_aln (((a0 - 1) + 2)) : Int)) (ev_b (s23.1 (((a0 - 1) + 2)) (Int.toNat a1)) fun x26 => ev_ck (2 * x26) fun x27 => ev_bd (jm_78 Q k x14 5 x27 s23) fun _ s28 => ev_if (a0 ≠ 0) (ev_if ((0 : Int) ≤ a1 ∧ a1 < (ev_aln (((a0 - 1) + 2)) : Int)) (ev_b (s28.1 (((a0 - 1) + 2)) (Int.toNat a1)) fun x30 => ev_ck (2 * x30) fun x31 => ev_ck (x31 + 1) fun x32 => ev_bd (jm_76 Q k 5 x32 ((Int64.ofNat ((0 : Fin 2) : Nat))) ((Int64.ofNat ((0 : Fin 2) : Nat))) s28) fun _ s33 => some ((), s33))))))) else (ev_if (a0 ≠ 0) (ev_if ((0 : Int) ≤ a1 ∧ a1 < (ev_aln (((a0 - 1) + 5)) : Int)) (ev_b (s19.1 (((a0 - 1) + 5)) (Int.toNat a1)) fun x35 => if x35 < 0 then (some ((), s19)) else (ev_b (s19.1 k 5) fun x37 => ev_ck (x37 - x14) fun x38 => ev_ck (x38 + 2) fun x39 => ev_bd (jm_78 Q k x14 3 x39 s19) fun _ s40 => ev_bd (jm_76 Q k 2 0 ((Int64.ofNat ((0 : Fin 2) : Nat))) ((Int64.ofNat ((0 : Fin 2) : Nat))) s40) fun _ s41 => some ((), s41)))))) else (ev_if (a0 ≠ 0) (ev_if ((0 : Int) ≤ a1 ∧ a1 < (ev_aln (((a0 - 1) + 2)) : Int)) (ev_b (s19.1 (((a0 - 1) + 2)) (Int.toNat a1)) fun x43 => ev_if (a0 ≠ 0) (ev_if ((0 : Int) ≤ a1 ∧ a1 < (ev_aln (((a0 - 1) + 3)) : Int)) (ev_b (s19.1 (((a0 - 1) + 3)) (Int.toNat a1)) fun x45 => ev_jn (fun (x50 : Int) (x49 : Int) (x48 : Int) (x47 : Int) (r46 : Nat) (s52 : ev_St) => ev_bd (jm_75 Q r46 x47 x48 x49 x50 s52) fun _ s53 => some ((), s53)) fun K121 => if x5 ≠ 13 then (K121 4 x45 x43 x14 k s19) else (K121 3 x45 x43 x14 k s19))))))) else (ev_bd (jm_76 Q k 1 x5 ((Int64.ofNat ((0 : Fin 2) : Nat))) ((Int64.ofNat ((0 : Fin 2) : Nat))) s16) fun _ s55 => some ((), s55))) else (ev_if (a0 ≠ 0) (ev_if ((0 : Int) ≤ a1 ∧ a1 < (ev_aln (((a0 - 1) + 8)) : Int)) (ev_b (s12.2.1 (((a0 - 1) + 8)) (Int.toNat a1)) fun y57 => ev_if (a0 ≠ 0) (ev_if ((0 : Int) ≤ a1 ∧ a1 < (ev_aln (((a0 - 1) + 9)) : Int)) (ev_b (s12.2.1 (((a0 - 1) + 9)) (Int.toNat a1)) fun y59 => ev_bd (jm_76 Q k 0 0 y57 y59 s12) fun _ s60 => some ((), s60))))))))) fun K35 => if x4 < 0 then (K35 x2 S) else (ev_if (a2 ≠ 0) (ev_b (ev_aln ((a2 - 1)) : Int) fun x63 => if x63 ≤ x4 then (K35 x2 S) else (ev_if (a2 ≠ 0) (ev_if ((0 : Int) ≤ x4 ∧ x4 < (ev_aln ((a2 - 1)) : Int)) (ev_b (S.1 ((a2 - 1)) (Int.toNat x4)) fun x66 => ev_if (a2 ≠ 0) (ev_if ((0 : Int) ≤ a1 ∧ a1 < (ev_aln ((a2 - 1)) : Int)) (ev_b (ev_pI S ((a2 - 1)) (Int.toNat a1) x66) fun s68 => K35 x2 s68)))))))))))
theorem jt_73 (d : Nat) (hd : 4 ≤ d) (Q : Nat) (k : Nat) (a0 : Nat) (a1 : Int) (a2 : Nat) (hk : ev_isOb k 6 = true) (ha0 : a0 = 0 ∨ ev_isOb (a0 - 1) 5 = true) (ha1 : ev_rng a1) (ha2 : a2 = 0 ∨ ev_isAb (a2 - 1) 1 .int = true) (S : ev_St) (x : Unit) (S' : ev_St) (hJ : jm_73 Q k a0 a1 a2 S = some (x, S')) : ev_Ref d 73 [.ref k, ev_nv a0, .int (Int32.ofInt a1), ev_nv a2] S (ev_eU x) S' (ev_PU x) := by
  obtain ⟨d, rfl⟩ : ∃ e, d = e + 1 := ⟨d - 1, by omega⟩
  refine ev_ref_of (P := ev_PU) (lv := [(0, .ref k), (1, ev_nv a0), (2, .int (Int32.ofInt a1)), (3, ev_nv a2)]) (by decide +kernel) (by (try simp only [ev_sum, ev_nv_cat]); first | done | rfl) (by (try simp only [lv_args, ev_nv_cat]); first | done | rfl) ?_ x S' hJ
  unfold jm_73
  refine ev_r_aload_n (pc := 0) (k := 1) (v := ev_nv a0) (ev_isR_nv _) (by decide +kernel) (by rfl) ?_
  refine ev_r_chk ?_
  intro c1
  refine ev_r_dr (r := a0) (fun v => [v]) c1 ?_
  refine ev_r_getC (pc := 1) (y := 57) (ci := 5) (f := 0) (fin := 2) (k' := ((a0 - 1) + 1)) (by decide +kernel) (by decide +kernel) (by exact (ha0.resolve_left c1)) rfl rfl ?_
  refine ev_r_iload_n (pc := 4) (k := 2) (v := Int32.ofInt a1) (by decide +kernel) (by rfl) ?_
  refine ev_r_iald (pc := 5) ha1 (by decide +kernel) (by exact (ev_fo_5_0 (ha0.resolve_left c1))) ?_
  intro x2 hx2
  refine ev_r_istore (pc := 6) (k := 4) (by decide +kernel) (by decide +kernel) rfl ?_
  refine ev_r_aload_n (pc := 8) (k := 1) (v := ev_nv a0) (ev_isR_nv _) (by decide +kernel) (by exact (ev_l1 (by rfl) (by decide) (by decide))) ?_
  refine ev_r_chk ?_
  intro c3
  refine ev_r_dr (r := a0) (fun v => [v]) c3 ?_
  refine ev_r_getC (pc := 9) (y := 67) (ci := 5) (f := 3) (fin := 2) (k' := ((a0 - 1) + 4)) (by decide +kernel) (by decide +kernel) (by exact (ha0.resolve_left c3)) rfl rfl ?_
  refine ev_r_iload_n (pc := 12) (k := 2) (v := Int32.ofInt a1) (by decide +kernel) (by exact (ev_l1 (by rfl) (by decide) (by decide))) ?_
  refine ev_r_iald (pc := 13) ha1 (by decide +kernel) (by exact (ev_fo_5_3 (ha0.resolve_left c3))) ?_
  intro x4 hx4
  refine ev_r_istore (pc := 14) (k := 5) (by decide +kernel) (by decide +kernel) rfl ?_
  refine ev_r_iload (pc := 16) (k := 5) (v := Int32.ofInt x4) (by decide +kernel) (by exact ev_lk_st1_self) ?_
  refine ev_r_jn (Q := fun K => ∀ (x5 : Int) (hx5 : ev_rng x5), ∀ (s12 : ev_St) (w6 : List (Nat × Value)), ev_lk w6 0 = some (.ref k) → ev_lk w6 1 = some (ev_nv a0) → ev_lk w6 2 = some (.int (Int32.ofInt a1)) → ev_lk w6 3 = some (ev_nv a2) → ev_lk w6 4 = some (.int (Int32.ofInt x5)) → ev_w none (ev_Mof 73) d 35 w6 [] s12 (K x5 s12) ev_eU ev_PU) ?_ ?_
  · intro x5 hx5 s12 w6 e7 e8 e9 e10 e11
    refine ev_r_aload_n (pc := 35) (k := 3) (v := ev_nv a2) (ev_isR_nv _) (by decide +kernel) (by exact e10) ?_
    refine ev_r_iload_n (pc := 36) (k := 2) (v := Int32.ofInt a1) (by decide +kernel) (by exact e9) ?_
    refine ev_r_chk ?_
    intro c13
    refine ev_r_dr (r := a2) (fun v => [.int (Int32.ofInt a1), v]) c13 ?_
    refine ev_r_iald (pc := 37) ha1 (by decide +kernel) (by exact (ha2.resolve_left c13)) ?_
    intro x14 hx14
    refine ev_r_istore (pc := 38) (k := 6) (by decide +kernel) (by decide +kernel) rfl ?_
    refine ev_r_iload (pc := 40) (k := 4) (v := Int32.ofInt x5) (by decide +kernel) (by exact (ev_l1 e11 (by decide) (by decide))) ?_
    refine ev_r_if (pc := 42) (q := .ne) (o := 24) (t := 66) (c := x5 ≠ 0) (by decide +kernel) (ev_k_ne hx5 ev_rng0) (by decide +kernel) ?_ ?_
    · intro c15
      refine ev_r_iload (pc := 66) (k := 4) (v := Int32.ofInt x5) (by decide +kernel) (by exact (ev_l1 e11 (by decide) (by decide))) ?_
      refine ev_r_stat (pc := 68) (y := 78) (kind := 2) (mi := 61) (na := 1) (as := [.int (Int32.ofInt x5)]) (rest := []) (encc := ev_oI) (Q := ev_bl) (fun x S1 h => jt_61 d (by omega) Q x5 hx5 s12 x S1 h) (Or.inl rfl) (by decide +kernel) (by decide +kernel) (by decide +kernel) (by decide +kernel) rfl (by (try simp only [ev_sum, ev_nv_cat]); first | done | rfl) ?_
      intro x17 s16 hx17
      replace hx17 := ev_bl_rng hx17
      show ev_w _ _ _ _ _ [.int (Int32.ofInt x17)] _ _ _ _
      refine ev_r_if (pc := 71) (q := .eq) (o := 15) (t := 86) (c := x17 = 0) (by decide +kernel) (ev_k_eq hx17 ev_rng0) (by decide +kernel) ?_ ?_
      · intro c18
        refine ev_r_iload (pc := 86) (k := 4) (v := Int32.ofInt x5) (by decide +kernel) (by exact (ev_l1 e11 (by decide) (by decide))) ?_
        refine ev_r_stat (pc := 88) (y := 60) (kind := 2) (mi := 62) (na := 1) (as := [.int (Int32.ofInt x5)]) (rest := []) (encc := ev_oI) (Q := ev_bl) (fun x S1 h => jt_62 d (by omega) Q x5 hx5 s16 x S1 h) (Or.inl rfl) (by decide +kernel) (by decide +kernel) (by decide +kernel) (by decide +kernel) rfl (by (try simp only [ev_sum, ev_nv_cat]); first | done | rfl) ?_
        intro x20 s19 hx20
        replace hx20 := ev_bl_rng hx20
        show ev_w _ _ _ _ _ [.int (Int32.ofInt x20)] _ _ _ _
        refine ev_r_if (pc := 91) (q := .eq) (o := 36) (t := 127) (c := x20 = 0) (by decide +kernel) (ev_k_eq hx20 ev_rng0) (by decide +kernel) ?_ ?_
        · intro c21
          refine ev_r_iload (pc := 127) (k := 4) (v := Int32.ofInt x5) (by decide +kernel) (by exact (ev_l1 e11 (by decide) (by decide))) ?_
          refine ev_r_bipush (pc := 129) (k := 15) (by decide +kernel) (by decide +kernel) ?_
          refine ev_r_icmp (pc := 131) (q := .ne) (o := 39) (t := 170) (c := x5 ≠ 15) (by decide +kernel) (ev_k_ne hx5 (by decide)) (by decide +kernel) ?_ ?_
          · intro c22
            refine ev_r_aload_n (pc := 170) (k := 0) (v := .ref k) trivial (by decide +kernel) (by exact (ev_l1 e7 (by decide) (by decide))) ?_
            refine ev_r_aload_n (pc := 171) (k := 1) (v := ev_nv a0) (ev_isR_nv _) (by decide +kernel) (by exact (ev_l1 e8 (by decide) (by decide))) ?_
            refine ev_r_iload_n (pc := 172) (k := 2) (v := Int32.ofInt a1) (by decide +kernel) (by exact (ev_l1 e9 (by decide) (by decide))) ?_
            refine ev_r_aload_n (pc := 173) (k := 3) (v := ev_nv a2) (ev_isR_nv _) (by decide +kernel) (by exact (ev_l1 e10 (by decide) (by decide))) ?_
            refine ev_r_virt (pc := 174) (y := 92) (mi := 74) (na := 3) (k := k) (as := [ev_nv a0, .int (Int32.ofInt a1), ev_nv a2]) (rest := []) (encc := ev_oU) (Q := ev_PU) (fun x S1 h => jt_74 d (by omega) Q k a0 a1 a2 hk (by exact ha0) ha1 (by exact ha2) s19 x S1 h) (by exact hk) (by decide +kernel) (by decide +kernel) (by decide +kernel) (by decide +kernel) rfl (by (try simp only [ev_sum, ev_nv_cat]); first | done | rfl) ?_
            intro _ s23 _
            show ev_w _ _ _ _ _ [] _ _ _ _
            refine ev_r_iload (pc := 177) (k := 4) (v := Int32.ofInt x5) (by decide +kernel) (by exact (ev_l1 e11 (by decide) (by decide))) ?_
            refine ev_r_bipush (pc := 179) (k := 18) (by decide +kernel) (by decide +kernel) ?_
            refine ev_r_icmp (pc := 181) (q := .ne) (o := 35) (t := 216) (c := x5 ≠ 18) (by decide +kernel) (ev_k_ne hx5 (by decide)) (by decide +kernel) ?_ ?_
            · intro c24
              exact ev_r_return (pc := 216) (x := ()) trivial (by decide +kernel) (by decide +kernel) rfl
            · intro c24
              refine ev_r_aload_n (pc := 184) (k := 0) (v := .ref k) trivial (by decide +kernel) (by exact (ev_l1 e7 (by decide) (by decide))) ?_
              refine ev_r_iload (pc := 185) (k := 6) (v := Int32.ofInt x14) (by decide +kernel) (by exact ev_lk_st1_self) ?_
              refine ev_r_iconst (pc := 187) (k := 5) (by decide +kernel) ?_
              refine ev_r_iconst (pc := 188) (k := 2) (by decide +kernel) ?_
              refine ev_r_aload_n (pc := 189) (k := 1) (v := ev_nv a0) (ev_isR_nv _) (by decide +kernel) (by exact (ev_l1 e8 (by decide) (by decide))) ?_
              refine ev_r_chk ?_
              intro c25
              refine ev_r_dr (r := a0) (fun v => [v, .int (Int32.ofInt 2), .int (Int32.ofInt 5), .int (Int32.ofInt x14), .ref k]) c25 ?_
              refine ev_r_getC (pc := 190) (y := 81) (ci := 5) (f := 1) (fin := 2) (k' := ((a0 - 1) + 2)) (by decide +kernel) (by decide +kernel) (by exact (ha0.resolve_left c25)) rfl rfl ?_
              refine ev_r_iload_n (pc := 193) (k := 2) (v := Int32.ofInt a1) (by decide +kernel) (by exact (ev_l1 e9 (by decide) (by decide))) ?_
              refine ev_r_iald (pc := 194) ha1 (by decide +kernel) (by exact (ev_fo_5_1 (ha0.resolve_left c25))) ?_
              intro x26 hx26
              refine ev_r_imul (pc := 195) (by decide +kernel) ?_
              intro x27 hx27
              refine ev_r_virt (pc := 196) (y := 88) (mi := 78) (na := 3) (k := k) (as := [.int (Int32.ofInt x14), .int (Int32.ofInt 5), .int (Int32.ofInt x27)]) (rest := []) (encc := ev_oU) (Q := ev_PU) (fun x S1 h => jt_78 d (by omega) Q k x14 5 x27 hk hx14 (by decide) hx27 s23 x S1 h) (by exact hk) (by decide +kernel) (by decide +kernel) (by decide +kernel) (by decide +kernel) rfl (by (try simp only [ev_sum, ev_nv_cat]); first | done | rfl) ?_
              intro _ s28 _
              show ev_w _ _ _ _ _ [] _ _ _ _
              refine ev_r_aload_n (pc := 199) (k := 0) (v := .ref k) trivial (by decide +kernel) (by exact (ev_l1 e7 (by decide) (by decide))) ?_
              refine ev_r_iconst (pc := 200) (k := 5) (by decide +kernel) ?_
              refine ev_r_iconst (pc := 201) (k := 2) (by decide +kernel) ?_
              refine ev_r_aload_n (pc := 202) (k := 1) (v := ev_nv a0) (ev_isR_nv _) (by decide +kernel) (by exact (ev_l1 e8 (by decide) (by decide))) ?_
              refine ev_r_chk ?_
              intro c29
              refine ev_r_dr (r := a0) (fun v => [v, .int (Int32.ofInt 2), .int (Int32.ofInt 5), .ref k]) c29 ?_
              refine ev_r_getC (pc := 203) (y := 81) (ci := 5) (f := 1) (fin := 2) (k' := ((a0 - 1) + 2)) (by decide +kernel) (by decide +kernel) (by exact (ha0.resolve_left c29)) rfl rfl ?_
              refine ev_r_iload_n (pc := 206) (k := 2) (v := Int32.ofInt a1) (by decide +kernel) (by exact (ev_l1 e9 (by decide) (by decide))) ?_
              refine ev_r_iald (pc := 207) ha1 (by decide +kernel) (by exact (ev_fo_5_1 (ha0.resolve_left c29))) ?_
              intro x30 hx30
              refine ev_r_imul (pc := 208) (by decide +kernel) ?_
              intro x31 hx31
              refine ev_r_iconst (pc := 209) (k := 1) (by decide +kernel) ?_
              refine ev_r_iadd (pc := 210) (by decide +kernel) ?_
              intro x32 hx32
              refine ev_r_lconst (pc := 211) (c := 0) (by decide +kernel) ?_
              refine ev_r_lconst (pc := 212) (c := 0) (by decide +kernel) ?_
              refine ev_r_virt (pc := 213) (y := 50) (mi := 76) (na := 4) (k := k) (as := [.int (Int32.ofInt 5), .int (Int32.ofInt x32), .long ((Int64.ofNat ((0 : Fin 2) : Nat))), .long ((Int64.ofNat ((0 : Fin 2) : Nat)))]) (rest := []) (encc := ev_oU) (Q := ev_PU) (fun x S1 h => jt_76 d (by omega) Q k 5 x32 ((Int64.ofNat ((0 : Fin 2) : Nat))) ((Int64.ofNat ((0 : Fin 2) : Nat))) hk (by decide) hx32 s28 x S1 h) (by exact hk) (by decide +kernel) (by decide +kernel) (by decide +kernel) (by decide +kernel) rfl (by (try simp only [ev_sum, ev_nv_cat]); first | done | rfl) ?_
              intro _ s33 _
              show ev_w _ _ _ _ _ [] _ _ _ _
              exact ev_r_return (pc := 216) (x := ()) trivial (by decide +kernel) (by decide +kernel) rfl
          · intro c22
            refine ev_r_aload_n (pc := 134) (k := 1) (v := ev_nv a0) (ev_isR_nv _) (by decide +kernel) (by exact (ev_l1 e8 (by decide) (by decide))) ?_
            refine ev_r_chk ?_
            intro c34
            refine ev_r_dr (r := a0) (fun v => [v]) c34 ?_
            refine ev_r_getC (pc := 135) (y := 73) (ci := 5) (f := 4) (fin := 2) (k' := ((a0 - 1) + 5)) (by decide +kernel) (by decide +kernel) (by exact (ha0.resolve_left c34)) rfl rfl ?_
            refine ev_r_iload_n (pc := 138) (k := 2) (v := Int32.ofInt a1) (by decide +kernel) (by exact (ev_l1 e9 (by decide) (by decide))) ?_
            refine ev_r_iald (pc := 139) ha1 (by decide +kernel) (by exact (ev_fo_5_4 (ha0.resolve_left c34))) ?_
            intro x35 hx35
            refine ev_r_if (pc := 140) (q := .lt) (o := 76) (t := 216) (c := x35 < 0) (by decide +kernel) (ev_k_lt hx35 ev_rng0) (by decide +kernel) ?_ ?_
            · intro c36
              exact ev_r_return (pc := 216) (x := ()) trivial (by decide +kernel) (by decide +kernel) rfl
            · intro c36
              refine ev_r_aload_n (pc := 143) (k := 0) (v := .ref k) trivial (by decide +kernel) (by exact (ev_l1 e7 (by decide) (by decide))) ?_
              refine ev_r_iload (pc := 144) (k := 6) (v := Int32.ofInt x14) (by decide +kernel) (by exact ev_lk_st1_self) ?_
              refine ev_r_iconst (pc := 146) (k := 3) (by decide +kernel) ?_
              refine ev_r_aload_n (pc := 147) (k := 0) (v := .ref k) trivial (by decide +kernel) (by exact (ev_l1 e7 (by decide) (by decide))) ?_
              refine ev_r_getI (pc := 148) (y := 29) (ci := 6) (f := 5) (fin := 0) (by decide +kernel) (by decide +kernel) (by exact hk) rfl ?_
              intro x37 hx37
              refine ev_r_iload (pc := 151) (k := 6) (v := Int32.ofInt x14) (by decide +kernel) (by exact ev_lk_st1_self) ?_
              refine ev_r_isub (pc := 153) (by decide +kernel) ?_
              intro x38 hx38
              refine ev_r_iconst (pc := 154) (k := 2) (by decide +kernel) ?_
              refine ev_r_iadd (pc := 155) (by decide +kernel) ?_
              intro x39 hx39
              refine ev_r_virt (pc := 156) (y := 88) (mi := 78) (na := 3) (k := k) (as := [.int (Int32.ofInt x14), .int (Int32.ofInt 3), .int (Int32.ofInt x39)]) (rest := []) (encc := ev_oU) (Q := ev_PU) (fun x S1 h => jt_78 d (by omega) Q k x14 3 x39 hk hx14 (by decide) hx39 s19 x S1 h) (by exact hk) (by decide +kernel) (by decide +kernel) (by decide +kernel) (by decide +kernel) rfl (by (try simp only [ev_sum, ev_nv_cat]); first | done | rfl) ?_
              intro _ s40 _
              show ev_w _ _ _ _ _ [] _ _ _ _
              refine ev_r_aload_n (pc := 159) (k := 0) (v := .ref k) trivial (by decide +kernel) (by exact (ev_l1 e7 (by decide) (by decide))) ?_
              refine ev_r_iconst (pc := 160) (k := 2) (by decide +kernel) ?_
              refine ev_r_iconst (pc := 161) (k := 0) (by decide +kernel) ?_
              refine ev_r_lconst (pc := 162) (c := 0) (by decide +kernel) ?_
              refine ev_r_lconst (pc := 163) (c := 0) (by decide +kernel) ?_
              refine ev_r_virt (pc := 164) (y := 50) (mi := 76) (na := 4) (k := k) (as := [.int (Int32.ofInt 2), .int (Int32.ofInt 0), .long ((Int64.ofNat ((0 : Fin 2) : Nat))), .long ((Int64.ofNat ((0 : Fin 2) : Nat)))]) (rest := []) (encc := ev_oU) (Q := ev_PU) (fun x S1 h => jt_76 d (by omega) Q k 2 0 ((Int64.ofNat ((0 : Fin 2) : Nat))) ((Int64.ofNat ((0 : Fin 2) : Nat))) hk (by decide) (by decide) s40 x S1 h) (by exact hk) (by decide +kernel) (by decide +kernel) (by decide +kernel) (by decide +kernel) rfl (by (try simp only [ev_sum, ev_nv_cat]); first | done | rfl) ?_
              intro _ s41 _
              show ev_w _ _ _ _ _ [] _ _ _ _
              refine ev_r_goto (pc := 167) (o := 49) (t := 216) (by decide +kernel) (by decide +kernel) ?_
              exact ev_r_return (pc := 216) (x := ()) trivial (by decide +kernel) (by decide +kernel) rfl
        · intro c21
          refine ev_r_aload_n (pc := 94) (k := 0) (v := .ref k) trivial (by decide +kernel) (by exact (ev_l1 e7 (by decide) (by decide))) ?_
          refine ev_r_iload (pc := 95) (k := 6) (v := Int32.ofInt x14) (by decide +kernel) (by exact ev_lk_st1_self) ?_
          refine ev_r_aload_n (pc := 97) (k := 1) (v := ev_nv a0) (ev_isR_nv _) (by decide +kernel) (by exact (ev_l1 e8 (by decide) (by decide))) ?_
          refine ev_r_chk ?_
          intro c42
          refine ev_r_dr (r := a0) (fun v => [v, .int (Int32.ofInt x14), .ref k]) c42 ?_
          refine ev_r_getC (pc := 98) (y := 81) (ci := 5) (f := 1) (fin := 2) (k' := ((a0 - 1) + 2)) (by decide +kernel) (by decide +kernel) (by exact (ha0.resolve_left c42)) rfl rfl ?_
          refine ev_r_iload_n (pc := 101) (k := 2) (v := Int32.ofInt a1) (by decide +kernel) (by exact (ev_l1 e9 (by decide) (by decide))) ?_
          refine ev_r_iald (pc := 102) ha1 (by decide +kernel) (by exact (ev_fo_5_1 (ha0.resolve_left c42))) ?_
          intro x43 hx43
          refine ev_r_aload_n (pc := 103) (k := 1) (v := ev_nv a0) (ev_isR_nv _) (by decide +kernel) (by exact (ev_l1 e8 (by decide) (by decide))) ?_
          refine ev_r_chk ?_
          intro c44
          refine ev_r_dr (r := a0) (fun v => [v, .int (Int32.ofInt x43), .int (Int32.ofInt x14), .ref k]) c44 ?_
          refine ev_r_getC (pc := 104) (y := 64) (ci := 5) (f := 2) (fin := 2) (k' := ((a0 - 1) + 3)) (by decide +kernel) (by decide +kernel) (by exact (ha0.resolve_left c44)) rfl rfl ?_
          refine ev_r_iload_n (pc := 107) (k := 2) (v := Int32.ofInt a1) (by decide +kernel) (by exact (ev_l1 e9 (by decide) (by decide))) ?_
          refine ev_r_iald (pc := 108) ha1 (by decide +kernel) (by exact (ev_fo_5_2 (ha0.resolve_left c44))) ?_
          intro x45 hx45
          refine ev_r_iload (pc := 109) (k := 4) (v := Int32.ofInt x5) (by decide +kernel) (by exact (ev_l1 e11 (by decide) (by decide))) ?_
          refine ev_r_bipush (pc := 111) (k := 13) (by decide +kernel) (by decide +kernel) ?_
          refine ev_r_jn (Q := fun K => ∀ (x50 : Int) (hx50 : ev_rng x50), ∀ (x49 : Int) (hx49 : ev_rng x49), ∀ (x48 : Int) (hx48 : ev_rng x48), ∀ (x47 : Int) (hx47 : ev_rng x47), ∀ (r46 : Nat) (hr46 : ev_isOb r46 6 = true), ∀ (s52 : ev_St) (w51 : List (Nat × Value)), ev_w none (ev_Mof 73) d 121 w51 [.int (Int32.ofInt x50), .int (Int32.ofInt x49), .int (Int32.ofInt x48), .int (Int32.ofInt x47), .ref r46] s52 (K x50 x49 x48 x47 r46 s52) ev_eU ev_PU) ?_ ?_
          · intro x50 hx50 x49 hx49 x48 hx48 x47 hx47 r46 hr46 s52 w51 
            refine ev_r_virt (pc := 121) (y := 84) (mi := 75) (na := 4) (k := r46) (as := [.int (Int32.ofInt x47), .int (Int32.ofInt x48), .int (Int32.ofInt x49), .int (Int32.ofInt x50)]) (rest := []) (encc := ev_oU) (Q := ev_PU) (fun x S1 h => jt_75 d (by omega) Q r46 x47 x48 x49 x50 hr46 hx47 hx48 hx49 hx50 s52 x S1 h) (by exact hr46) (by decide +kernel) (by decide +kernel) (by decide +kernel) (by decide +kernel) rfl (by (try simp only [ev_sum, ev_nv_cat]); first | done | rfl) ?_
            intro _ s53 _
            show ev_w _ _ _ _ _ [] _ _ _ _
            refine ev_r_goto (pc := 124) (o := 92) (t := 216) (by decide +kernel) (by decide +kernel) ?_
            exact ev_r_return (pc := 216) (x := ()) trivial (by decide +kernel) (by decide +kernel) rfl
          · intro K121 hK121
            refine ev_r_icmp (pc := 113) (q := .ne) (o := 7) (t := 120) (c := x5 ≠ 13) (by decide +kernel) (ev_k_ne hx5 (by decide)) (by decide +kernel) ?_ ?_
            · intro c54
              refine ev_r_iconst (pc := 120) (k := 4) (by decide +kernel) ?_
              exact hK121 4 (by decide) x45 hx45 x43 hx43 x14 hx14 k hk s19 _ 
            · intro c54
              refine ev_r_iconst (pc := 116) (k := 3) (by decide +kernel) ?_
              refine ev_r_goto (pc := 117) (o := 4) (t := 121) (by decide +kernel) (by decide +kernel) ?_
              exact hK121 3 (by decide) x45 hx45 x43 hx43 x14 hx14 k hk s19 _ 
      · intro c18
        refine ev_r_aload_n (pc := 74) (k := 0) (v := .ref k) trivial (by decide +kernel) (by exact (ev_l1 e7 (by decide) (by decide))) ?_
        refine ev_r_iconst (pc := 75) (k := 1) (by decide +kernel) ?_
        refine ev_r_iload (pc := 76) (k := 4) (v := Int32.ofInt x5) (by decide +kernel) (by exact (ev_l1 e11 (by decide) (by decide))) ?_
        refine ev_r_lconst (pc := 78) (c := 0) (by decide +kernel) ?_
        refine ev_r_lconst (pc := 79) (c := 0) (by decide +kernel) ?_
        refine ev_r_virt (pc := 80) (y := 50) (mi := 76) (na := 4) (k := k) (as := [.int (Int32.ofInt 1), .int (Int32.ofInt x5), .long ((Int64.ofNat ((0 : Fin 2) : Nat))), .long ((Int64.ofNat ((0 : Fin 2) : Nat)))]) (rest := []) (encc := ev_oU) (Q := ev_PU) (fun x S1 h => jt_76 d (by omega) Q k 1 x5 ((Int64.ofNat ((0 : Fin 2) : Nat))) ((Int64.ofNat ((0 : Fin 2) : Nat))) hk (by decide) hx5 s16 x S1 h) (by exact hk) (by decide +kernel) (by decide +kernel) (by decide +kernel) (by decide +kernel) rfl (by (try simp only [ev_sum, ev_nv_cat]); first | done | rfl) ?_
        intro _ s55 _
        show ev_w _ _ _ _ _ [] _ _ _ _
        refine ev_r_goto (pc := 83) (o := 133) (t := 216) (by decide +kernel) (by decide +kernel) ?_
        exact ev_r_return (pc := 216) (x := ()) trivial (by decide +kernel) (by decide +kernel) rfl
    · intro c15
      refine ev_r_aload_n (pc := 45) (k := 0) (v := .ref k) trivial (by decide +kernel) (by exact (ev_l1 e7 (by decide) (by decide))) ?_
      refine ev_r_iconst (pc := 46) (k := 0) (by decide +kernel) ?_
      refine ev_r_iconst (pc := 47) (k := 0) (by decide +kernel) ?_
      refine ev_r_aload_n (pc := 48) (k := 1) (v := ev_nv a0) (ev_isR_nv _) (by decide +kernel) (by exact (ev_l1 e8 (by decide) (by decide))) ?_
      refine ev_r_chk ?_
      intro c56
      refine ev_r_dr (r := a0) (fun v => [v, .int (Int32.ofInt 0), .int (Int32.ofInt 0), .ref k]) c56 ?_
      refine ev_r_getC (pc := 49) (y := 76) (ci := 5) (f := 7) (fin := 2) (k' := ((a0 - 1) + 8)) (by decide +kernel) (by decide +kernel) (by exact (ha0.resolve_left c56)) rfl rfl ?_
      refine ev_r_iload_n (pc := 52) (k := 2) (v := Int32.ofInt a1) (by decide +kernel) (by exact (ev_l1 e9 (by decide) (by decide))) ?_
      refine ev_r_lald (pc := 53) ha1 (by decide +kernel) (by exact (ev_fo_5_7 (ha0.resolve_left c56))) ?_
      intro y57
      refine ev_r_aload_n (pc := 54) (k := 1) (v := ev_nv a0) (ev_isR_nv _) (by decide +kernel) (by exact (ev_l1 e8 (by decide) (by decide))) ?_
      refine ev_r_chk ?_
      intro c58
      refine ev_r_dr (r := a0) (fun v => [v, .long y57, .int (Int32.ofInt 0), .int (Int32.ofInt 0), .ref k]) c58 ?_
      refine ev_r_getC (pc := 55) (y := 77) (ci := 5) (f := 8) (fin := 2) (k' := ((a0 - 1) + 9)) (by decide +kernel) (by decide +kernel) (by exact (ha0.resolve_left c58)) rfl rfl ?_
      refine ev_r_iload_n (pc := 58) (k := 2) (v := Int32.ofInt a1) (by decide +kernel) (by exact (ev_l1 e9 (by decide) (by decide))) ?_
      refine ev_r_lald (pc := 59) ha1 (by decide +kernel) (by exact (ev_fo_5_8 (ha0.resolve_left c58))) ?_
      intro y59
      refine ev_r_virt (pc := 60) (y := 50) (mi := 76) (na := 4) (k := k) (as := [.int (Int32.ofInt 0), .int (Int32.ofInt 0), .long y57, .long y59]) (rest := []) (encc := ev_oU) (Q := ev_PU) (fun x S1 h => jt_76 d (by omega) Q k 0 0 y57 y59 hk (by decide) (by decide) s12 x S1 h) (by exact hk) (by decide +kernel) (by decide +kernel) (by decide +kernel) (by decide +kernel) rfl (by (try simp only [ev_sum, ev_nv_cat]); first | done | rfl) ?_
      intro _ s60 _
      show ev_w _ _ _ _ _ [] _ _ _ _
      refine ev_r_goto (pc := 63) (o := 153) (t := 216) (by decide +kernel) (by decide +kernel) ?_
      exact ev_r_return (pc := 216) (x := ()) trivial (by decide +kernel) (by decide +kernel) rfl
  · intro K35 hK35
    refine ev_r_if (pc := 18) (q := .lt) (o := 17) (t := 35) (c := x4 < 0) (by decide +kernel) (ev_k_lt hx4 ev_rng0) (by decide +kernel) ?_ ?_
    · intro c61
      exact hK35 x2 hx2 S _ (by exact (ev_l1 (ev_l1 (by rfl) (by decide) (by decide)) (by decide) (by decide))) (by exact (ev_l1 (ev_l1 (by rfl) (by decide) (by decide)) (by decide) (by decide))) (by exact (ev_l1 (ev_l1 (by rfl) (by decide) (by decide)) (by decide) (by decide))) (by exact (ev_l1 (ev_lk_st1 (by rfl) (by decide) (ev_nv_cat _)) (by decide) (by decide))) (by exact (ev_lk_st1 ev_lk_st1_self (by decide) rfl))
    · intro c61
      refine ev_r_iload (pc := 21) (k := 5) (v := Int32.ofInt x4) (by decide +kernel) (by exact ev_lk_st1_self) ?_
      refine ev_r_aload_n (pc := 23) (k := 3) (v := ev_nv a2) (ev_isR_nv _) (by decide +kernel) (by exact (ev_l1 (ev_lk_st1 (by rfl) (by decide) (ev_nv_cat _)) (by decide) (by decide))) ?_
      refine ev_r_chk ?_
      intro c62
      refine ev_r_dr (r := a2) (fun v => [v, .int (Int32.ofInt x4)]) c62 ?_
      refine ev_r_alen (pc := 24) (kd := 1) (ty := .int) (Or.inl rfl) (by decide +kernel) (by exact (ha2.resolve_left c62)) ?_
      intro x63 hx63
      refine ev_r_icmp (pc := 25) (q := .ge) (o := 10) (t := 35) (c := x63 ≤ x4) (by decide +kernel) (ev_k_ge hx4 hx63) (by decide +kernel) ?_ ?_
      · intro c64
        exact hK35 x2 hx2 S _ (by exact (ev_l1 (ev_l1 (by rfl) (by decide) (by decide)) (by decide) (by decide))) (by exact (ev_l1 (ev_l1 (by rfl) (by decide) (by decide)) (by decide) (by decide))) (by exact (ev_l1 (ev_l1 (by rfl) (by decide) (by decide)) (by decide) (by decide))) (by exact (ev_l1 (ev_lk_st1 (by rfl) (by decide) (ev_nv_cat _)) (by decide) (by decide))) (by exact (ev_lk_st1 ev_lk_st1_self (by decide) rfl))
      · intro c64
        refine ev_r_aload_n (pc := 28) (k := 3) (v := ev_nv a2) (ev_isR_nv _) (by decide +kernel) (by exact (ev_l1 (ev_lk_st1 (by rfl) (by decide) (ev_nv_cat _)) (by decide) (by decide))) ?_
        refine ev_r_iload_n (pc := 29) (k := 2) (v := Int32.ofInt a1) (by decide +kernel) (by exact (ev_l1 (ev_l1 (by rfl) (by decide) (by decide)) (by decide) (by decide))) ?_
        refine ev_r_aload_n (pc := 30) (k := 3) (v := ev_nv a2) (ev_isR_nv _) (by decide +kernel) (by exact (ev_l1 (ev_lk_st1 (by rfl) (by decide) (ev_nv_cat _)) (by decide) (by decide))) ?_
        refine ev_r_iload (pc := 31) (k := 5) (v := Int32.ofInt x4) (by decide +kernel) (by exact ev_lk_st1_self) ?_
        refine ev_r_chk ?_
        intro c65
        refine ev_r_dr (r := a2) (fun v => [.int (Int32.ofInt x4), v, .int (Int32.ofInt a1), ev_nv a2]) c65 ?_
        refine ev_r_iald (pc := 33) hx4 (by decide +kernel) (by exact (ha2.resolve_left c65)) ?_
        intro x66 hx66
        refine ev_r_chk ?_
        intro c67
        refine ev_r_dr (r := a2) (fun v => [.int (Int32.ofInt x66), .int (Int32.ofInt a1), v]) c67 ?_
        refine ev_r_iast (pc := 34) hx66 ha1 (by decide +kernel) (by exact (ha2.resolve_left c67)) ?_
        intro s68
        exact hK35 x2 hx2 s68 _ (by exact (ev_l1 (ev_l1 (by rfl) (by decide) (by decide)) (by decide) (by decide))) (by exact (ev_l1 (ev_l1 (by rfl) (by decide) (by decide)) (by decide) (by decide))) (by exact (ev_l1 (ev_l1 (by rfl) (by decide) (by decide)) (by decide) (by decide))) (by exact (ev_l1 (ev_lk_st1 (by rfl) (by decide) (ev_nv_cat _)) (by decide) (by decide))) (by exact (ev_lk_st1 ev_lk_st1_self (by decide) rfl))
/-- MendBench$Program.leadsOn(I)Z -/
def jm_80 (Q : Nat) (k : Nat) (a0 : Int) (S : ev_St) : Option ((Int) × ev_St) := ev_ck (a0 + 1) fun x1 => ev_bd (jm_70 Q k x1 S) fun x3 s2 => ev_jn (fun (x4 : Int) (s8 : ev_St) => ev_if ((0 : Int) ≤ a0 ∧ a0 < (ev_aln ((k + 2)) : Int)) (ev_b (s8.1 ((k + 2)) (Int.toNat a0)) fun x9 => ev_ck (a0 + x9) fun x10 => ev_bd (jm_70 Q k x10 s8) fun x12 s11 => ev_jn (fun (x13 : Int) (x14 : Int) (s19 : ev_St) => ev_if ((0 : Int) ≤ a0 ∧ a0 < (ev_aln ((k + 1)) : Int)) (ev_b (s19.1 ((k + 1)) (Int.toNat a0)) fun x20 => if x20 = 0 then (if x13 = 0 then (some (0, s19)) else (ev_if ((0 : Int) ≤ a0 ∧ a0 < (ev_aln ((k + 3)) : Int)) (ev_b (s19.2.1 ((k + 3)) (Int.toNat a0)) fun y23 => ev_b (ev_lcmp y23 ((Int64.ofNat ((0 : Fin 2) : Nat)))) fun x24 => if x24 ≠ 0 then (some (1, s19)) else (ev_if ((0 : Int) ≤ a0 ∧ a0 < (ev_aln ((k + 4)) : Int)) (ev_b (s19.2.1 ((k + 4)) (Int.toNat a0)) fun y26 => ev_b (ev_lcmp y26 ((Int64.ofNat ((0 : Fin 2) : Nat)))) fun x27 => if x27 = 0 then (some (0, s19)) else (some (1, s19))))))) else (if x20 = 1 ∨ x20 = 5 then (ev_if (ev_bl x13) (some (x13, s19))) else (if x20 = 2 then (ev_if (ev_bl x14) (some (x14, s19))) else (if x20 = 3 ∨ x20 = 4 then (if x13 ≠ 0 then (some (1, s19)) else (if x14 = 0 then (some (0, s19)) else (some (1, s19)))) else (if x20 = 6 then (some (1, s19)) else (ev_if (ev_bl x13) (some (x13, s19))))))))) fun K63 => ev_jn (fun (x38 : Int) (s43 : ev_St) => K63 x38 0 s43) fun K62 => if x12 = 0 then (K62 x4 s11) else (ev_if ((0 : Int) ≤ a0 ∧ a0 < (ev_aln ((k + 2)) : Int)) (ev_b (s11.1 ((k + 2)) (Int.toNat a0)) fun x45 => ev_ck (a0 + x45) fun x46 => ev_if ((0 : Int) ≤ x46 ∧ x46 < (ev_aln ((k + 5)) : Int)) (ev_b (s11.1 ((k + 5)) (Int.toNat x46)) fun x47 => if x47 = 0 then (K62 x4 s11) else (K63 x4 1 s11)))))) fun K26 => ev_jn (fun  (s52 : ev_St) => K26 0 s52) fun K25 => if x3 = 0 then (K25  s2) else (ev_ck (a0 + 1) fun x54 => ev_if ((0 : Int) ≤ x54 ∧ x54 < (ev_aln ((k + 5)) : Int)) (ev_b (s2.1 ((k + 5)) (Int.toNat x54)) fun x55 => if x55 = 0 then (K25  s2) else (K26 1 s2)))
theorem jt_80 (d : Nat) (hd : 2 ≤ d) (Q : Nat) (k : Nat) (a0 : Int) (hk : ev_isOb k 6 = true) (ha0 : ev_rng a0) (S : ev_St) (x : Int) (S' : ev_St) (hJ : jm_80 Q k a0 S = some (x, S')) : ev_Ref d 80 [.ref k, .int (Int32.ofInt a0)] S (ev_eI x) S' (ev_bl x) := by
  obtain ⟨d, rfl⟩ : ∃ e, d = e + 1 := ⟨d - 1, by omega⟩
  refine ev_ref_of (P := ev_bl) (lv := [(0, .ref k), (1, .int (Int32.ofInt a0))]) (by decide +kernel) (by (try simp only [ev_sum, ev_nv_cat]); first | done | rfl) (by (try simp only [lv_args, ev_nv_cat]); first | done | rfl) ?_ x S' hJ
  unfold jm_80
  refine ev_r_aload_n (pc := 0) (k := 0) (v := .ref k) trivial (by decide +kernel) (by rfl) ?_
  refine ev_r_iload_n (pc := 1) (k := 1) (v := Int32.ofInt a0) (by decide +kernel) (by rfl) ?_
  refine ev_r_iconst (pc := 2) (k := 1) (by decide +kernel) ?_
  refine ev_r_iadd (pc := 3) (by decide +kernel) ?_
  intro x1 hx1
  refine ev_r_virt (pc := 4) (y := 95) (mi := 70) (na := 1) (k := k) (as := [.int (Int32.ofInt x1)]) (rest := []) (encc := ev_oI) (Q := ev_bl) (fun x S1 h => jt_70 d (by omega) Q k x1 hk hx1 S x S1 h) (by exact hk) (by decide +kernel) (by decide +kernel) (by decide +kernel) (by decide +kernel) rfl (by (try simp only [ev_sum, ev_nv_cat]); first | done | rfl) ?_
  intro x3 s2 hx3
  replace hx3 := ev_bl_rng hx3
  show ev_w _ _ _ _ _ [.int (Int32.ofInt x3)] _ _ _ _
  refine ev_r_jn (Q := fun K => ∀ (x4 : Int) (hx4 : ev_rng x4), ∀ (s8 : ev_St) (w5 : List (Nat × Value)), ev_lk w5 0 = some (.ref k) → ev_lk w5 1 = some (.int (Int32.ofInt a0)) → ev_w none (ev_Mof 80) d 26 w5 [.int (Int32.ofInt x4)] s8 (K x4 s8) ev_eI ev_bl) ?_ ?_
  · intro x4 hx4 s8 w5 e6 e7
    refine ev_r_istore_n (pc := 26) (k := 2) (by decide +kernel) (by decide +kernel) rfl ?_
    refine ev_r_aload_n (pc := 27) (k := 0) (v := .ref k) trivial (by decide +kernel) (by exact (ev_l1 e6 (by decide) (by decide))) ?_
    refine ev_r_iload_n (pc := 28) (k := 1) (v := Int32.ofInt a0) (by decide +kernel) (by exact (ev_lk_st1 e7 (by decide) rfl)) ?_
    refine ev_r_aload_n (pc := 29) (k := 0) (v := .ref k) trivial (by decide +kernel) (by exact (ev_l1 e6 (by decide) (by decide))) ?_
    refine ev_r_getC (pc := 30) (y := 15) (ci := 6) (f := 1) (fin := 1) (k' := (k + 2)) (by decide +kernel) (by decide +kernel) (by exact hk) rfl rfl ?_
    refine ev_r_iload_n (pc := 33) (k := 1) (v := Int32.ofInt a0) (by decide +kernel) (by exact (ev_lk_st1 e7 (by decide) rfl)) ?_
    refine ev_r_iald (pc := 34) ha0 (by decide +kernel) (by exact (ev_fo_6_1 hk)) ?_
    intro x9 hx9
    refine ev_r_iadd (pc := 35) (by decide +kernel) ?_
    intro x10 hx10
    refine ev_r_virt (pc := 36) (y := 95) (mi := 70) (na := 1) (k := k) (as := [.int (Int32.ofInt x10)]) (rest := []) (encc := ev_oI) (Q := ev_bl) (fun x S1 h => jt_70 d (by omega) Q k x10 hk hx10 s8 x S1 h) (by exact hk) (by decide +kernel) (by decide +kernel) (by decide +kernel) (by decide +kernel) rfl (by (try simp only [ev_sum, ev_nv_cat]); first | done | rfl) ?_
    intro x12 s11 hx12
    replace hx12 := ev_bl_rng hx12
    show ev_w _ _ _ _ _ [.int (Int32.ofInt x12)] _ _ _ _
    refine ev_r_jn (Q := fun K => ∀ (x13 : Int) (hx13 : ev_rng x13), ∀ (x14 : Int) (hx14 : ev_rng x14), ∀ (s19 : ev_St) (w15 : List (Nat × Value)), ev_lk w15 0 = some (.ref k) → ev_lk w15 1 = some (.int (Int32.ofInt a0)) → ev_lk w15 2 = some (.int (Int32.ofInt x13)) → ev_w none (ev_Mof 80) d 63 w15 [.int (Int32.ofInt x14)] s19 (K x13 x14 s19) ev_eI ev_bl) ?_ ?_
    · intro x13 hx13 x14 hx14 s19 w15 e16 e17 e18
      refine ev_r_istore_n (pc := 63) (k := 3) (by decide +kernel) (by decide +kernel) rfl ?_
      refine ev_r_aload_n (pc := 64) (k := 0) (v := .ref k) trivial (by decide +kernel) (by exact (ev_l1 e16 (by decide) (by decide))) ?_
      refine ev_r_getC (pc := 65) (y := 11) (ci := 6) (f := 0) (fin := 1) (k' := (k + 1)) (by decide +kernel) (by decide +kernel) (by exact hk) rfl rfl ?_
      refine ev_r_iload_n (pc := 68) (k := 1) (v := Int32.ofInt a0) (by decide +kernel) (by exact (ev_l1 e17 (by decide) (by decide))) ?_
      refine ev_r_iald (pc := 69) ha0 (by decide +kernel) (by exact (ev_fo_6_0 hk)) ?_
      intro x20 hx20
      refine ev_r_ite ?_ ?_
      · intro c21
        refine ev_r_sw (pc := 70) (i := (.tableswitch 92 0 6 #[44, 92, 76, 78, 78, 92, 42])) (len := 42) (pc' := 114) (by decide +kernel) (by rw [c21]; rw [ev_pure_tsw]; exact ev_tsw_c (o := 44) (by decide) (by decide) rfl (by decide +kernel)) ?_
        refine ev_r_iload_n (pc := 114) (k := 2) (v := Int32.ofInt x13) (by decide +kernel) (by exact (ev_lk_st1 e18 (by decide) rfl)) ?_
        refine ev_r_if (pc := 115) (q := .eq) (o := 29) (t := 144) (c := x13 = 0) (by decide +kernel) (ev_k_eq hx13 ev_rng0) (by decide +kernel) ?_ ?_
        · intro c22
          refine ev_r_iconst (pc := 144) (k := 0) (by decide +kernel) ?_
          exact ev_r_ireturn (pc := 145) (x := 0) (v := Int32.ofInt 0) (ty := .boolean) (by decide : ev_bl 0) (by decide +kernel) (by decide +kernel) (ev_ret_bl (by decide : ev_bl 0)) rfl
        · intro c22
          refine ev_r_aload_n (pc := 118) (k := 0) (v := .ref k) trivial (by decide +kernel) (by exact (ev_l1 e16 (by decide) (by decide))) ?_
          refine ev_r_getC (pc := 119) (y := 18) (ci := 6) (f := 2) (fin := 1) (k' := (k + 3)) (by decide +kernel) (by decide +kernel) (by exact hk) rfl rfl ?_
          refine ev_r_iload_n (pc := 122) (k := 1) (v := Int32.ofInt a0) (by decide +kernel) (by exact (ev_l1 e17 (by decide) (by decide))) ?_
          refine ev_r_lald (pc := 123) ha0 (by decide +kernel) (by exact (ev_fo_6_2 hk)) ?_
          intro y23
          refine ev_r_lconst (pc := 124) (c := 0) (by decide +kernel) ?_
          refine ev_r_toI (pc := 125) (i := .lcmp) (len := 1) (pc' := 126) (by decide +kernel) rfl ?_
          intro x24 hx24
          refine ev_r_if (pc := 126) (q := .ne) (o := 14) (t := 140) (c := x24 ≠ 0) (by decide +kernel) (ev_k_ne hx24 ev_rng0) (by decide +kernel) ?_ ?_
          · intro c25
            refine ev_r_iconst (pc := 140) (k := 1) (by decide +kernel) ?_
            refine ev_r_goto (pc := 141) (o := 4) (t := 145) (by decide +kernel) (by decide +kernel) ?_
            exact ev_r_ireturn (pc := 145) (x := 1) (v := Int32.ofInt 1) (ty := .boolean) (by decide : ev_bl 1) (by decide +kernel) (by decide +kernel) (ev_ret_bl (by decide : ev_bl 1)) rfl
          · intro c25
            refine ev_r_aload_n (pc := 129) (k := 0) (v := .ref k) trivial (by decide +kernel) (by exact (ev_l1 e16 (by decide) (by decide))) ?_
            refine ev_r_getC (pc := 130) (y := 22) (ci := 6) (f := 3) (fin := 1) (k' := (k + 4)) (by decide +kernel) (by decide +kernel) (by exact hk) rfl rfl ?_
            refine ev_r_iload_n (pc := 133) (k := 1) (v := Int32.ofInt a0) (by decide +kernel) (by exact (ev_l1 e17 (by decide) (by decide))) ?_
            refine ev_r_lald (pc := 134) ha0 (by decide +kernel) (by exact (ev_fo_6_3 hk)) ?_
            intro y26
            refine ev_r_lconst (pc := 135) (c := 0) (by decide +kernel) ?_
            refine ev_r_toI (pc := 136) (i := .lcmp) (len := 1) (pc' := 137) (by decide +kernel) rfl ?_
            intro x27 hx27
            refine ev_r_if (pc := 137) (q := .eq) (o := 7) (t := 144) (c := x27 = 0) (by decide +kernel) (ev_k_eq hx27 ev_rng0) (by decide +kernel) ?_ ?_
            · intro c28
              refine ev_r_iconst (pc := 144) (k := 0) (by decide +kernel) ?_
              exact ev_r_ireturn (pc := 145) (x := 0) (v := Int32.ofInt 0) (ty := .boolean) (by decide : ev_bl 0) (by decide +kernel) (by decide +kernel) (ev_ret_bl (by decide : ev_bl 0)) rfl
            · intro c28
              refine ev_r_iconst (pc := 140) (k := 1) (by decide +kernel) ?_
              refine ev_r_goto (pc := 141) (o := 4) (t := 145) (by decide +kernel) (by decide +kernel) ?_
              exact ev_r_ireturn (pc := 145) (x := 1) (v := Int32.ofInt 1) (ty := .boolean) (by decide : ev_bl 1) (by decide +kernel) (by decide +kernel) (ev_ret_bl (by decide : ev_bl 1)) rfl
      · intro c21
        refine ev_r_ite ?_ ?_
        · intro c29
          refine ev_r_sw (pc := 70) (i := (.tableswitch 92 0 6 #[44, 92, 76, 78, 78, 92, 42])) (len := 42) (pc' := 162) (by decide +kernel) (by rcases c29 with e | e <;> (rw [e]; rw [ev_pure_tsw]; exact ev_tsw_c (o := 92) (by decide) (by decide) rfl (by decide +kernel))) ?_
          refine ev_r_iload_n (pc := 162) (k := 2) (v := Int32.ofInt x13) (by decide +kernel) (by exact (ev_lk_st1 e18 (by decide) rfl)) ?_
          refine ev_r_chk ?_
          intro c30
          exact ev_r_ireturn (pc := 163) (x := x13) (v := Int32.ofInt x13) (ty := .boolean) c30 (by decide +kernel) (by decide +kernel) (ev_ret_bl c30) rfl
        · intro c29
          refine ev_r_ite ?_ ?_
          · intro c31
            refine ev_r_sw (pc := 70) (i := (.tableswitch 92 0 6 #[44, 92, 76, 78, 78, 92, 42])) (len := 42) (pc' := 146) (by decide +kernel) (by rw [c31]; rw [ev_pure_tsw]; exact ev_tsw_c (o := 76) (by decide) (by decide) rfl (by decide +kernel)) ?_
            refine ev_r_iload_n (pc := 146) (k := 3) (v := Int32.ofInt x14) (by decide +kernel) (by exact ev_lk_st1_self) ?_
            refine ev_r_chk ?_
            intro c32
            exact ev_r_ireturn (pc := 147) (x := x14) (v := Int32.ofInt x14) (ty := .boolean) c32 (by decide +kernel) (by decide +kernel) (ev_ret_bl c32) rfl
          · intro c31
            refine ev_r_ite ?_ ?_
            · intro c33
              refine ev_r_sw (pc := 70) (i := (.tableswitch 92 0 6 #[44, 92, 76, 78, 78, 92, 42])) (len := 42) (pc' := 148) (by decide +kernel) (by rcases c33 with e | e <;> (rw [e]; rw [ev_pure_tsw]; exact ev_tsw_c (o := 78) (by decide) (by decide) rfl (by decide +kernel))) ?_
              refine ev_r_iload_n (pc := 148) (k := 2) (v := Int32.ofInt x13) (by decide +kernel) (by exact (ev_lk_st1 e18 (by decide) rfl)) ?_
              refine ev_r_if (pc := 149) (q := .ne) (o := 7) (t := 156) (c := x13 ≠ 0) (by decide +kernel) (ev_k_ne hx13 ev_rng0) (by decide +kernel) ?_ ?_
              · intro c34
                refine ev_r_iconst (pc := 156) (k := 1) (by decide +kernel) ?_
                refine ev_r_goto (pc := 157) (o := 4) (t := 161) (by decide +kernel) (by decide +kernel) ?_
                exact ev_r_ireturn (pc := 161) (x := 1) (v := Int32.ofInt 1) (ty := .boolean) (by decide : ev_bl 1) (by decide +kernel) (by decide +kernel) (ev_ret_bl (by decide : ev_bl 1)) rfl
              · intro c34
                refine ev_r_iload_n (pc := 152) (k := 3) (v := Int32.ofInt x14) (by decide +kernel) (by exact ev_lk_st1_self) ?_
                refine ev_r_if (pc := 153) (q := .eq) (o := 7) (t := 160) (c := x14 = 0) (by decide +kernel) (ev_k_eq hx14 ev_rng0) (by decide +kernel) ?_ ?_
                · intro c35
                  refine ev_r_iconst (pc := 160) (k := 0) (by decide +kernel) ?_
                  exact ev_r_ireturn (pc := 161) (x := 0) (v := Int32.ofInt 0) (ty := .boolean) (by decide : ev_bl 0) (by decide +kernel) (by decide +kernel) (ev_ret_bl (by decide : ev_bl 0)) rfl
                · intro c35
                  refine ev_r_iconst (pc := 156) (k := 1) (by decide +kernel) ?_
                  refine ev_r_goto (pc := 157) (o := 4) (t := 161) (by decide +kernel) (by decide +kernel) ?_
                  exact ev_r_ireturn (pc := 161) (x := 1) (v := Int32.ofInt 1) (ty := .boolean) (by decide : ev_bl 1) (by decide +kernel) (by decide +kernel) (ev_ret_bl (by decide : ev_bl 1)) rfl
            · intro c33
              refine ev_r_ite ?_ ?_
              · intro c36
                refine ev_r_sw (pc := 70) (i := (.tableswitch 92 0 6 #[44, 92, 76, 78, 78, 92, 42])) (len := 42) (pc' := 112) (by decide +kernel) (by rw [c36]; rw [ev_pure_tsw]; exact ev_tsw_c (o := 42) (by decide) (by decide) rfl (by decide +kernel)) ?_
                refine ev_r_iconst (pc := 112) (k := 1) (by decide +kernel) ?_
                exact ev_r_ireturn (pc := 113) (x := 1) (v := Int32.ofInt 1) (ty := .boolean) (by decide : ev_bl 1) (by decide +kernel) (by decide +kernel) (ev_ret_bl (by decide : ev_bl 1)) rfl
              · intro c36
                refine ev_r_sw (pc := 70) (i := (.tableswitch 92 0 6 #[44, 92, 76, 78, 78, 92, 42])) (len := 42) (pc' := 162) (by decide +kernel) (by rw [ev_pure_tsw]; exact ev_tsw_d hx20 (by omega) (by decide +kernel)) ?_
                refine ev_r_iload_n (pc := 162) (k := 2) (v := Int32.ofInt x13) (by decide +kernel) (by exact (ev_lk_st1 e18 (by decide) rfl)) ?_
                refine ev_r_chk ?_
                intro c37
                exact ev_r_ireturn (pc := 163) (x := x13) (v := Int32.ofInt x13) (ty := .boolean) c37 (by decide +kernel) (by decide +kernel) (ev_ret_bl c37) rfl
    · intro K63 hK63
      refine ev_r_jn (Q := fun K => ∀ (x38 : Int) (hx38 : ev_rng x38), ∀ (s43 : ev_St) (w39 : List (Nat × Value)), ev_lk w39 0 = some (.ref k) → ev_lk w39 1 = some (.int (Int32.ofInt a0)) → ev_lk w39 2 = some (.int (Int32.ofInt x38)) → ev_w none (ev_Mof 80) d 62 w39 [] s43 (K x38 s43) ev_eI ev_bl) ?_ ?_
      · intro x38 hx38 s43 w39 e40 e41 e42
        refine ev_r_iconst (pc := 62) (k := 0) (by decide +kernel) ?_
        exact hK63 x38 hx38 0 (by decide) s43 _ (by exact e40) (by exact e41) (by exact e42)
      · intro K62 hK62
        refine ev_r_if (pc := 39) (q := .eq) (o := 23) (t := 62) (c := x12 = 0) (by decide +kernel) (ev_k_eq hx12 ev_rng0) (by decide +kernel) ?_ ?_
        · intro c44
          exact hK62 x4 hx4 s11 _ (by exact (ev_l1 e6 (by decide) (by decide))) (by exact (ev_lk_st1 e7 (by decide) rfl)) (by exact ev_lk_st1_self)
        · intro c44
          refine ev_r_aload_n (pc := 42) (k := 0) (v := .ref k) trivial (by decide +kernel) (by exact (ev_l1 e6 (by decide) (by decide))) ?_
          refine ev_r_getC (pc := 43) (y := 25) (ci := 6) (f := 4) (fin := 1) (k' := (k + 5)) (by decide +kernel) (by decide +kernel) (by exact hk) rfl rfl ?_
          refine ev_r_iload_n (pc := 46) (k := 1) (v := Int32.ofInt a0) (by decide +kernel) (by exact (ev_lk_st1 e7 (by decide) rfl)) ?_
          refine ev_r_aload_n (pc := 47) (k := 0) (v := .ref k) trivial (by decide +kernel) (by exact (ev_l1 e6 (by decide) (by decide))) ?_
          refine ev_r_getC (pc := 48) (y := 15) (ci := 6) (f := 1) (fin := 1) (k' := (k + 2)) (by decide +kernel) (by decide +kernel) (by exact hk) rfl rfl ?_
          refine ev_r_iload_n (pc := 51) (k := 1) (v := Int32.ofInt a0) (by decide +kernel) (by exact (ev_lk_st1 e7 (by decide) rfl)) ?_
          refine ev_r_iald (pc := 52) ha0 (by decide +kernel) (by exact (ev_fo_6_1 hk)) ?_
          intro x45 hx45
          refine ev_r_iadd (pc := 53) (by decide +kernel) ?_
          intro x46 hx46
          refine ev_r_bald (pc := 54) (ty := .boolean) (Or.inr rfl) hx46 (by decide +kernel) (by exact (ev_fo_6_4 hk)) ?_
          intro x47 hx47
          refine ev_r_if (pc := 55) (q := .eq) (o := 7) (t := 62) (c := x47 = 0) (by decide +kernel) (ev_k_eq hx47 ev_rng0) (by decide +kernel) ?_ ?_
          · intro c48
            exact hK62 x4 hx4 s11 _ (by exact (ev_l1 e6 (by decide) (by decide))) (by exact (ev_lk_st1 e7 (by decide) rfl)) (by exact ev_lk_st1_self)
          · intro c48
            refine ev_r_iconst (pc := 58) (k := 1) (by decide +kernel) ?_
            refine ev_r_goto (pc := 59) (o := 4) (t := 63) (by decide +kernel) (by decide +kernel) ?_
            exact hK63 x4 hx4 1 (by decide) s11 _ (by exact (ev_l1 e6 (by decide) (by decide))) (by exact (ev_lk_st1 e7 (by decide) rfl)) (by exact ev_lk_st1_self)
  · intro K26 hK26
    refine ev_r_jn (Q := fun K => ∀ (s52 : ev_St) (w49 : List (Nat × Value)), ev_lk w49 0 = some (.ref k) → ev_lk w49 1 = some (.int (Int32.ofInt a0)) → ev_w none (ev_Mof 80) d 25 w49 [] s52 (K  s52) ev_eI ev_bl) ?_ ?_
    · intro  s52 w49 e50 e51
      refine ev_r_iconst (pc := 25) (k := 0) (by decide +kernel) ?_
      exact hK26 0 (by decide) s52 _ (by exact e50) (by exact e51)
    · intro K25 hK25
      refine ev_r_if (pc := 7) (q := .eq) (o := 18) (t := 25) (c := x3 = 0) (by decide +kernel) (ev_k_eq hx3 ev_rng0) (by decide +kernel) ?_ ?_
      · intro c53
        exact hK25  s2 _ (by rfl) (by rfl)
      · intro c53
        refine ev_r_aload_n (pc := 10) (k := 0) (v := .ref k) trivial (by decide +kernel) (by rfl) ?_
        refine ev_r_getC (pc := 11) (y := 25) (ci := 6) (f := 4) (fin := 1) (k' := (k + 5)) (by decide +kernel) (by decide +kernel) (by exact hk) rfl rfl ?_
        refine ev_r_iload_n (pc := 14) (k := 1) (v := Int32.ofInt a0) (by decide +kernel) (by rfl) ?_
        refine ev_r_iconst (pc := 15) (k := 1) (by decide +kernel) ?_
        refine ev_r_iadd (pc := 16) (by decide +kernel) ?_
        intro x54 hx54
        refine ev_r_bald (pc := 17) (ty := .boolean) (Or.inr rfl) hx54 (by decide +kernel) (by exact (ev_fo_6_4 hk)) ?_
        intro x55 hx55
        refine ev_r_if (pc := 18) (q := .eq) (o := 7) (t := 25) (c := x55 = 0) (by decide +kernel) (ev_k_eq hx55 ev_rng0) (by decide +kernel) ?_ ?_
        · intro c56
          exact hK25  s2 _ (by rfl) (by rfl)
        · intro c56
          refine ev_r_iconst (pc := 21) (k := 1) (by decide +kernel) ?_
          refine ev_r_goto (pc := 22) (o := 4) (t := 26) (by decide +kernel) (by decide +kernel) ?_
          exact hK26 1 (by decide) s2 _ (by rfl) (by rfl)
def jb_79_46 (Q : Nat) (k : Nat) (x8 : Int) (K26 : Int → Int → ev_St → Option ((Unit) × ev_St)) (K46 : Int → Int → ev_St → Option ((Unit) × ev_St)) (x18 : Int) (x19 : Int) (s25 : ev_St) : Option ((Unit) × ev_St) := if x19 < 0 then (ev_ck (x8 + 1) fun x27 => K26 x18 x27 s25) else (ev_if ((0 : Int) ≤ x19 ∧ x19 < (ev_aln ((k + 5)) : Int)) (ev_b (s25.1 ((k + 5)) (Int.toNat x19)) fun x28 => ev_jn (fun (x29 : Int) (s35 : ev_St) => ev_ck (x19 + (-1)) fun x36 => K46 x29 x36 s35) fun K76 => if x28 ≠ 0 then (K76 x18 s25) else (ev_bd (jm_80 Q k x19 s25) fun x39 s38 => if x39 = 0 then (K76 x18 s38) else (ev_if ((0 : Int) ≤ x19 ∧ x19 < (ev_aln ((k + 5)) : Int)) (ev_b (ev_pI s38 ((k + 5)) (Int.toNat x19) 1) fun s41 => K76 1 s41)))))
def jl_79_46 (Q : Nat) (k : Nat) (x8 : Int) (K26 : Int → Int → ev_St → Option ((Unit) × ev_St)) : Nat → Int → Int → ev_St → Option ((Unit) × ev_St)
  | 0 => fun _ _ _ => none
  | q + 1 => jb_79_46 Q k x8 K26 (jl_79_46 Q k x8 K26 q)
theorem jbt_79_46 (d : Nat) (hd : 3 ≤ d + 1) (Q : Nat) (k : Nat) (x8 : Int) (hk : ev_isOb k 6 = true) (hx8 : ev_rng x8) (K26 : Int → Int → ev_St → Option ((Unit) × ev_St)) (hK26 : ∀ (x7 : Int) (hx7 : ev_rng x7), ∀ (x8 : Int) (hx8 : ev_rng x8), ∀ (s13 : ev_St) (w9 : List (Nat × Value)), ev_lk w9 0 = some (.ref k) → ev_lk w9 1 = some (.int (Int32.ofInt x7)) → ev_lk w9 2 = some (.int (Int32.ofInt x8)) → ev_w none (ev_Mof 79) d 26 w9 [] s13 (K26 x7 x8 s13) ev_eU ev_PU) (K46 : Int → Int → ev_St → Option ((Unit) × ev_St)) (hK46 : ∀ (x18 : Int) (hx18 : ev_rng x18), ∀ (x19 : Int) (hx19 : ev_rng x19), ∀ (s25 : ev_St) (w20 : List (Nat × Value)), ev_lk w20 0 = some (.ref k) → ev_lk w20 1 = some (.int (Int32.ofInt x18)) → ev_lk w20 2 = some (.int (Int32.ofInt x8)) → ev_lk w20 3 = some (.int (Int32.ofInt x19)) → ev_w none (ev_Mof 79) d 46 w20 [] s25 (K46 x18 x19 s25) ev_eU ev_PU) : ∀ (x18 : Int) (hx18 : ev_rng x18), ∀ (x19 : Int) (hx19 : ev_rng x19), ∀ (s25 : ev_St) (w20 : List (Nat × Value)), ev_lk w20 0 = some (.ref k) → ev_lk w20 1 = some (.int (Int32.ofInt x18)) → ev_lk w20 2 = some (.int (Int32.ofInt x8)) → ev_lk w20 3 = some (.int (Int32.ofInt x19)) → ev_w none (ev_Mof 79) d 46 w20 [] s25 (jb_79_46 Q k x8 K26 K46 x18 x19 s25) ev_eU ev_PU := by
  intro x18 hx18 x19 hx19 s25 w20 e21 e22 e23 e24
  unfold jb_79_46
  refine ev_r_iload_n (pc := 46) (k := 3) (v := Int32.ofInt x19) (by decide +kernel) (by exact e24) ?_
  refine ev_r_if (pc := 47) (q := .lt) (o := 35) (t := 82) (c := x19 < 0) (by decide +kernel) (ev_k_lt hx19 ev_rng0) (by decide +kernel) ?_ ?_
  · intro c26
    refine ev_r_iinc (pc := 82) (k := 2) (c := 1) (x := x8) (by decide +kernel) (by decide +kernel) (by exact e23) (fun _ => rfl) ?_
    intro x27 hx27
    refine ev_r_goto (pc := 85) (o := (-59)) (t := 26) (by decide +kernel) (by decide +kernel) ?_
    exact hK26 x18 hx18 x27 hx27 s25 _ (by exact (ev_l1 e21 (by decide) (by decide))) (by exact (ev_lk_st1 e22 (by decide) rfl)) (by exact ev_lk_st1_self)
  · intro c26
    refine ev_r_aload_n (pc := 50) (k := 0) (v := .ref k) trivial (by decide +kernel) (by exact e21) ?_
    refine ev_r_getC (pc := 51) (y := 25) (ci := 6) (f := 4) (fin := 1) (k' := (k + 5)) (by decide +kernel) (by decide +kernel) (by exact hk) rfl rfl ?_
    refine ev_r_iload_n (pc := 54) (k := 3) (v := Int32.ofInt x19) (by decide +kernel) (by exact e24) ?_
    refine ev_r_bald (pc := 55) (ty := .boolean) (Or.inr rfl) hx19 (by decide +kernel) (by exact (ev_fo_6_4 hk)) ?_
    intro x28 hx28
    refine ev_r_jn (Q := fun K => ∀ (x29 : Int) (hx29 : ev_rng x29), ∀ (s35 : ev_St) (w30 : List (Nat × Value)), ev_lk w30 0 = some (.ref k) → ev_lk w30 1 = some (.int (Int32.ofInt x29)) → ev_lk w30 2 = some (.int (Int32.ofInt x8)) → ev_lk w30 3 = some (.int (Int32.ofInt x19)) → ev_w none (ev_Mof 79) d 76 w30 [] s35 (K x29 s35) ev_eU ev_PU) ?_ ?_
    · intro x29 hx29 s35 w30 e31 e32 e33 e34
      refine ev_r_iinc (pc := 76) (k := 3) (c := -1) (x := x19) (by decide +kernel) (by decide +kernel) (by exact e34) (fun _ => rfl) ?_
      intro x36 hx36
      refine ev_r_goto (pc := 79) (o := (-33)) (t := 46) (by decide +kernel) (by decide +kernel) ?_
      exact hK46 x29 hx29 x36 hx36 s35 _ (by exact (ev_l1 e31 (by decide) (by decide))) (by exact (ev_l1 e32 (by decide) (by decide))) (by exact (ev_lk_st1 e33 (by decide) rfl)) (by exact ev_lk_st1_self)
    · intro K76 hK76
      refine ev_r_if (pc := 56) (q := .ne) (o := 20) (t := 76) (c := x28 ≠ 0) (by decide +kernel) (ev_k_ne hx28 ev_rng0) (by decide +kernel) ?_ ?_
      · intro c37
        exact hK76 x18 hx18 s25 _ (by exact e21) (by exact e22) (by exact e23) (by exact e24)
      · intro c37
        refine ev_r_aload_n (pc := 59) (k := 0) (v := .ref k) trivial (by decide +kernel) (by exact e21) ?_
        refine ev_r_iload_n (pc := 60) (k := 3) (v := Int32.ofInt x19) (by decide +kernel) (by exact e24) ?_
        refine ev_r_virt (pc := 61) (y := 108) (mi := 80) (na := 1) (k := k) (as := [.int (Int32.ofInt x19)]) (rest := []) (encc := ev_oI) (Q := ev_bl) (fun x S1 h => jt_80 d (by omega) Q k x19 hk hx19 s25 x S1 h) (by exact hk) (by decide +kernel) (by decide +kernel) (by decide +kernel) (by decide +kernel) rfl (by (try simp only [ev_sum, ev_nv_cat]); first | done | rfl) ?_
        intro x39 s38 hx39
        replace hx39 := ev_bl_rng hx39
        show ev_w _ _ _ _ _ [.int (Int32.ofInt x39)] _ _ _ _
        refine ev_r_if (pc := 64) (q := .eq) (o := 12) (t := 76) (c := x39 = 0) (by decide +kernel) (ev_k_eq hx39 ev_rng0) (by decide +kernel) ?_ ?_
        · intro c40
          exact hK76 x18 hx18 s38 _ (by exact e21) (by exact e22) (by exact e23) (by exact e24)
        · intro c40
          refine ev_r_aload_n (pc := 67) (k := 0) (v := .ref k) trivial (by decide +kernel) (by exact e21) ?_
          refine ev_r_getC (pc := 68) (y := 25) (ci := 6) (f := 4) (fin := 1) (k' := (k + 5)) (by decide +kernel) (by decide +kernel) (by exact hk) rfl rfl ?_
          refine ev_r_iload_n (pc := 71) (k := 3) (v := Int32.ofInt x19) (by decide +kernel) (by exact e24) ?_
          refine ev_r_iconst (pc := 72) (k := 1) (by decide +kernel) ?_
          refine ev_r_bast (pc := 73) (ty := .boolean) (Or.inr rfl) (ev_nar_bl (by decide : ev_bl 1)) (by decide) hx19 (by decide +kernel) (by exact (ev_fo_6_4 hk)) ?_
          intro s41
          refine ev_r_iconst (pc := 74) (k := 1) (by decide +kernel) ?_
          refine ev_r_istore_n (pc := 75) (k := 1) (by decide +kernel) (by decide +kernel) rfl ?_
          exact hK76 1 (by decide) s41 _ (by exact (ev_lk_st1 e21 (by decide) rfl)) (by exact ev_lk_st1_self) (by exact (ev_l1 e23 (by decide) (by decide))) (by exact (ev_l1 e24 (by decide) (by decide)))
theorem jlt_79_46 (d : Nat) (hd : 3 ≤ d + 1) (Q : Nat) (k : Nat) (x8 : Int) (hk : ev_isOb k 6 = true) (hx8 : ev_rng x8) (K26 : Int → Int → ev_St → Option ((Unit) × ev_St)) (hK26 : ∀ (x7 : Int) (hx7 : ev_rng x7), ∀ (x8 : Int) (hx8 : ev_rng x8), ∀ (s13 : ev_St) (w9 : List (Nat × Value)), ev_lk w9 0 = some (.ref k) → ev_lk w9 1 = some (.int (Int32.ofInt x7)) → ev_lk w9 2 = some (.int (Int32.ofInt x8)) → ev_w none (ev_Mof 79) d 26 w9 [] s13 (K26 x7 x8 s13) ev_eU ev_PU) : ∀ q : Nat, ∀ (x18 : Int) (hx18 : ev_rng x18), ∀ (x19 : Int) (hx19 : ev_rng x19), ∀ (s25 : ev_St) (w20 : List (Nat × Value)), ev_lk w20 0 = some (.ref k) → ev_lk w20 1 = some (.int (Int32.ofInt x18)) → ev_lk w20 2 = some (.int (Int32.ofInt x8)) → ev_lk w20 3 = some (.int (Int32.ofInt x19)) → ev_w none (ev_Mof 79) d 46 w20 [] s25 (jl_79_46 Q k x8 K26 q x18 x19 s25) ev_eU ev_PU := by
  intro q
  induction q with
  | zero =>
    intro x18 hx18 x19 hx19 s25 w20 e21 e22 e23 e24
    exact ev_w_none
  | succ q ih => exact jbt_79_46 d hd Q k x8 hk hx8 K26 hK26 _ ih
def jb_79_26 (Q : Nat) (k : Nat)  (K26 : Int → Int → ev_St → Option ((Unit) × ev_St)) (x7 : Int) (x8 : Int) (s13 : ev_St) : Option ((Unit) × ev_St) := if 208 < x8 then (some ((), s13)) else (if x7 = 0 then (some ((), s13)) else (ev_b (s13.1 k 5) fun x16 => ev_ck (x16 - 1) fun x17 => jl_79_46 Q k x8 K26 Q 0 x17 s13))
def jl_79_26 (Q : Nat) (k : Nat)  : Nat → Int → Int → ev_St → Option ((Unit) × ev_St)
  | 0 => fun _ _ _ => none
  | q + 1 => jb_79_26 Q k  (jl_79_26 Q k  q)
theorem jbt_79_26 (d : Nat) (hd : 3 ≤ d + 1) (Q : Nat) (k : Nat) (hk : ev_isOb k 6 = true)   (K26 : Int → Int → ev_St → Option ((Unit) × ev_St)) (hK26 : ∀ (x7 : Int) (hx7 : ev_rng x7), ∀ (x8 : Int) (hx8 : ev_rng x8), ∀ (s13 : ev_St) (w9 : List (Nat × Value)), ev_lk w9 0 = some (.ref k) → ev_lk w9 1 = some (.int (Int32.ofInt x7)) → ev_lk w9 2 = some (.int (Int32.ofInt x8)) → ev_w none (ev_Mof 79) d 26 w9 [] s13 (K26 x7 x8 s13) ev_eU ev_PU) : ∀ (x7 : Int) (hx7 : ev_rng x7), ∀ (x8 : Int) (hx8 : ev_rng x8), ∀ (s13 : ev_St) (w9 : List (Nat × Value)), ev_lk w9 0 = some (.ref k) → ev_lk w9 1 = some (.int (Int32.ofInt x7)) → ev_lk w9 2 = some (.int (Int32.ofInt x8)) → ev_w none (ev_Mof 79) d 26 w9 [] s13 (jb_79_26 Q k  K26 x7 x8 s13) ev_eU ev_PU := by
  intro x7 hx7 x8 hx8 s13 w9 e10 e11 e12
  unfold jb_79_26
  refine ev_r_iload_n (pc := 26) (k := 2) (v := Int32.ofInt x8) (by decide +kernel) (by exact e12) ?_
  refine ev_r_sipush (pc := 27) (k := 208) (by decide +kernel) (by decide +kernel) ?_
  refine ev_r_icmp (pc := 30) (q := .gt) (o := 58) (t := 88) (c := 208 < x8) (by decide +kernel) (ev_k_gt hx8 (by decide)) (by decide +kernel) ?_ ?_
  · intro c14
    exact ev_r_return (pc := 88) (x := ()) trivial (by decide +kernel) (by decide +kernel) rfl
  · intro c14
    refine ev_r_iload_n (pc := 33) (k := 1) (v := Int32.ofInt x7) (by decide +kernel) (by exact e11) ?_
    refine ev_r_if (pc := 34) (q := .eq) (o := 54) (t := 88) (c := x7 = 0) (by decide +kernel) (ev_k_eq hx7 ev_rng0) (by decide +kernel) ?_ ?_
    · intro c15
      exact ev_r_return (pc := 88) (x := ()) trivial (by decide +kernel) (by decide +kernel) rfl
    · intro c15
      refine ev_r_iconst (pc := 37) (k := 0) (by decide +kernel) ?_
      refine ev_r_istore_n (pc := 38) (k := 1) (by decide +kernel) (by decide +kernel) rfl ?_
      refine ev_r_aload_n (pc := 39) (k := 0) (v := .ref k) trivial (by decide +kernel) (by exact (ev_lk_st1 e10 (by decide) rfl)) ?_
      refine ev_r_getI (pc := 40) (y := 29) (ci := 6) (f := 5) (fin := 0) (by decide +kernel) (by decide +kernel) (by exact hk) rfl ?_
      intro x16 hx16
      refine ev_r_iconst (pc := 43) (k := 1) (by decide +kernel) ?_
      refine ev_r_isub (pc := 44) (by decide +kernel) ?_
      intro x17 hx17
      refine ev_r_istore_n (pc := 45) (k := 3) (by decide +kernel) (by decide +kernel) rfl ?_
      exact jlt_79_46 d hd Q k x8 hk hx8 K26 hK26 Q 0 (by decide) x17 hx17 s13 _ (by exact (ev_l1 (ev_lk_st1 e10 (by decide) rfl) (by decide) (by decide))) (by exact (ev_l1 ev_lk_st1_self (by decide) (by decide))) (by exact (ev_lk_st1 (ev_l1 e12 (by decide) (by decide)) (by decide) rfl)) (by exact ev_lk_st1_self)
theorem jlt_79_26 (d : Nat) (hd : 3 ≤ d + 1) (Q : Nat) (k : Nat) (hk : ev_isOb k 6 = true)   : ∀ q : Nat, ∀ (x7 : Int) (hx7 : ev_rng x7), ∀ (x8 : Int) (hx8 : ev_rng x8), ∀ (s13 : ev_St) (w9 : List (Nat × Value)), ev_lk w9 0 = some (.ref k) → ev_lk w9 1 = some (.int (Int32.ofInt x7)) → ev_lk w9 2 = some (.int (Int32.ofInt x8)) → ev_w none (ev_Mof 79) d 26 w9 [] s13 (jl_79_26 Q k  q x7 x8 s13) ev_eU ev_PU := by
  intro q
  induction q with
  | zero =>
    intro x7 hx7 x8 hx8 s13 w9 e10 e11 e12
    exact ev_w_none
  | succ q ih => exact jbt_79_26 d hd Q k hk   _ ih
def jb_79_2 (Q : Nat) (k : Nat)  (K2 : Int → ev_St → Option ((Unit) × ev_St)) (x1 : Int) (s5 : ev_St) : Option ((Unit) × ev_St) := if 208 ≤ x1 then (jl_79_26 Q k  Q 1 0 s5) else (ev_if ((0 : Int) ≤ x1 ∧ x1 < (ev_aln ((k + 5)) : Int)) (ev_b (ev_pI s5 ((k + 5)) (Int.toNat x1) 0) fun s42 => ev_ck (x1 + 1) fun x43 => K2 x43 s42))
def jl_79_2 (Q : Nat) (k : Nat)  : Nat → Int → ev_St → Option ((Unit) × ev_St)
  | 0 => fun _ _ => none
  | q + 1 => jb_79_2 Q k  (jl_79_2 Q k  q)
theorem jbt_79_2 (d : Nat) (hd : 3 ≤ d + 1) (Q : Nat) (k : Nat) (hk : ev_isOb k 6 = true)   (K2 : Int → ev_St → Option ((Unit) × ev_St)) (hK2 : ∀ (x1 : Int) (hx1 : ev_rng x1), ∀ (s5 : ev_St) (w2 : List (Nat × Value)), ev_lk w2 0 = some (.ref k) → ev_lk w2 1 = some (.int (Int32.ofInt x1)) → ev_w none (ev_Mof 79) d 2 w2 [] s5 (K2 x1 s5) ev_eU ev_PU) : ∀ (x1 : Int) (hx1 : ev_rng x1), ∀ (s5 : ev_St) (w2 : List (Nat × Value)), ev_lk w2 0 = some (.ref k) → ev_lk w2 1 = some (.int (Int32.ofInt x1)) → ev_w none (ev_Mof 79) d 2 w2 [] s5 (jb_79_2 Q k  K2 x1 s5) ev_eU ev_PU := by
  intro x1 hx1 s5 w2 e3 e4
  unfold jb_79_2
  refine ev_r_iload_n (pc := 2) (k := 1) (v := Int32.ofInt x1) (by decide +kernel) (by exact e4) ?_
  refine ev_r_sipush (pc := 3) (k := 208) (by decide +kernel) (by decide +kernel) ?_
  refine ev_r_icmp (pc := 6) (q := .ge) (o := 16) (t := 22) (c := 208 ≤ x1) (by decide +kernel) (ev_k_ge hx1 (by decide)) (by decide +kernel) ?_ ?_
  · intro c6
    refine ev_r_iconst (pc := 22) (k := 1) (by decide +kernel) ?_
    refine ev_r_istore_n (pc := 23) (k := 1) (by decide +kernel) (by decide +kernel) rfl ?_
    refine ev_r_iconst (pc := 24) (k := 0) (by decide +kernel) ?_
    refine ev_r_istore_n (pc := 25) (k := 2) (by decide +kernel) (by decide +kernel) rfl ?_
    exact jlt_79_26 d hd Q k hk   Q 1 (by decide) 0 (by decide) s5 _ (by exact (ev_l1 (ev_lk_st1 e3 (by decide) rfl) (by decide) (by decide))) (by exact (ev_lk_st1 ev_lk_st1_self (by decide) rfl)) (by exact ev_lk_st1_self)
  · intro c6
    refine ev_r_aload_n (pc := 9) (k := 0) (v := .ref k) trivial (by decide +kernel) (by exact e3) ?_
    refine ev_r_getC (pc := 10) (y := 25) (ci := 6) (f := 4) (fin := 1) (k' := (k + 5)) (by decide +kernel) (by decide +kernel) (by exact hk) rfl rfl ?_
    refine ev_r_iload_n (pc := 13) (k := 1) (v := Int32.ofInt x1) (by decide +kernel) (by exact e4) ?_
    refine ev_r_iconst (pc := 14) (k := 0) (by decide +kernel) ?_
    refine ev_r_bast (pc := 15) (ty := .boolean) (Or.inr rfl) (ev_nar_bl (by decide : ev_bl 0)) (by decide) hx1 (by decide +kernel) (by exact (ev_fo_6_4 hk)) ?_
    intro s42
    refine ev_r_iinc (pc := 16) (k := 1) (c := 1) (x := x1) (by decide +kernel) (by decide +kernel) (by exact e4) (fun _ => rfl) ?_
    intro x43 hx43
    refine ev_r_goto (pc := 19) (o := (-17)) (t := 2) (by decide +kernel) (by decide +kernel) ?_
    exact hK2 x43 hx43 s42 _ (by exact (ev_lk_st1 e3 (by decide) rfl)) (by exact ev_lk_st1_self)
theorem jlt_79_2 (d : Nat) (hd : 3 ≤ d + 1) (Q : Nat) (k : Nat) (hk : ev_isOb k 6 = true)   : ∀ q : Nat, ∀ (x1 : Int) (hx1 : ev_rng x1), ∀ (s5 : ev_St) (w2 : List (Nat × Value)), ev_lk w2 0 = some (.ref k) → ev_lk w2 1 = some (.int (Int32.ofInt x1)) → ev_w none (ev_Mof 79) d 2 w2 [] s5 (jl_79_2 Q k  q x1 s5) ev_eU ev_PU := by
  intro q
  induction q with
  | zero =>
    intro x1 hx1 s5 w2 e3 e4
    exact ev_w_none
  | succ q ih => exact jbt_79_2 d hd Q k hk   _ ih
/-- MendBench$Program.findLive()V -/
def jm_79 (Q : Nat) (k : Nat) (S : ev_St) : Option ((Unit) × ev_St) := jl_79_2 Q k  Q 0 S
theorem jt_79 (d : Nat) (hd : 3 ≤ d) (Q : Nat) (k : Nat) (hk : ev_isOb k 6 = true) (S : ev_St) (x : Unit) (S' : ev_St) (hJ : jm_79 Q k S = some (x, S')) : ev_Ref d 79 [.ref k] S (ev_eU x) S' (ev_PU x) := by
  obtain ⟨d, rfl⟩ : ∃ e, d = e + 1 := ⟨d - 1, by omega⟩
  refine ev_ref_of (P := ev_PU) (lv := [(0, .ref k)]) (by decide +kernel) (by (try simp only [ev_sum, ev_nv_cat]); first | done | rfl) (by (try simp only [lv_args, ev_nv_cat]); first | done | rfl) ?_ x S' hJ
  unfold jm_79
  refine ev_r_iconst (pc := 0) (k := 0) (by decide +kernel) ?_
  refine ev_r_istore_n (pc := 1) (k := 1) (by decide +kernel) (by decide +kernel) rfl ?_
  exact jlt_79_2 d hd Q k hk   Q 0 (by decide) S _ (by exact (ev_lk_st1 (by rfl) (by decide) rfl)) (by exact ev_lk_st1_self)
def jb_71_32 (Q : Nat) (k : Nat) (a0 : Nat) (a1 : Nat) (a2 : Nat)  (K32 : Int → Int → ev_St → Option ((Unit) × ev_St)) (x11 : Int) (x12 : Int) (s20 : ev_St) : Option ((Unit) × ev_St) := if x11 ≤ x12 then (ev_bd (jm_76 Q k 6 0 ((Int64.ofNat ((0 : Fin 2) : Nat))) ((Int64.ofNat ((0 : Fin 2) : Nat))) s20) fun _ s22 => ev_bd (jm_79 Q k s22) fun _ s23 => some ((), s23)) else (ev_b (s20.1 k 5) fun x24 => ev_if (a1 ≠ 0) (ev_if ((0 : Int) ≤ x12 ∧ x12 < (ev_aln ((a1 - 1)) : Int)) (ev_b (ev_pI s20 ((a1 - 1)) (Int.toNat x12) x24) fun s26 => ev_if (a2 ≠ 0) (ev_if ((0 : Int) ≤ x12 ∧ x12 < (ev_aln ((a2 - 1)) : Int)) (ev_b (s26.1 ((a2 - 1)) (Int.toNat x12)) fun x28 => ev_jn (fun  (s36 : ev_St) => ev_ck (x12 + 1) fun x37 => K32 x11 x37 s36) fun K62 => if x28 ≠ 0 then (K62  s26) else (ev_bd (jm_73 Q k a0 x12 a1 s26) fun _ s39 => K62  s39))))))
def jl_71_32 (Q : Nat) (k : Nat) (a0 : Nat) (a1 : Nat) (a2 : Nat)  : Nat → Int → Int → ev_St → Option ((Unit) × ev_St)
  | 0 => fun _ _ _ => none
  | q + 1 => jb_71_32 Q k a0 a1 a2  (jl_71_32 Q k a0 a1 a2  q)
theorem jbt_71_32 (d : Nat) (hd : 5 ≤ d + 1) (Q : Nat) (k : Nat) (a0 : Nat) (a1 : Nat) (a2 : Nat) (hk : ev_isOb k 6 = true) (ha0 : a0 = 0 ∨ ev_isOb (a0 - 1) 5 = true) (ha1 : a1 = 0 ∨ ev_isAb (a1 - 1) 1 .int = true) (ha2 : a2 = 0 ∨ ev_isAb (a2 - 1) 1 .boolean = true)   (K32 : Int → Int → ev_St → Option ((Unit) × ev_St)) (hK32 : ∀ (x11 : Int) (hx11 : ev_rng x11), ∀ (x12 : Int) (hx12 : ev_rng x12), ∀ (s20 : ev_St) (w13 : List (Nat × Value)), ev_lk w13 0 = some (.ref k) → ev_lk w13 1 = some (ev_nv a0) → ev_lk w13 2 = some (ev_nv a1) → ev_lk w13 3 = some (ev_nv a2) → ev_lk w13 4 = some (.int (Int32.ofInt x11)) → ev_lk w13 5 = some (.int (Int32.ofInt x12)) → ev_w none (ev_Mof 71) d 32 w13 [] s20 (K32 x11 x12 s20) ev_eU ev_PU) : ∀ (x11 : Int) (hx11 : ev_rng x11), ∀ (x12 : Int) (hx12 : ev_rng x12), ∀ (s20 : ev_St) (w13 : List (Nat × Value)), ev_lk w13 0 = some (.ref k) → ev_lk w13 1 = some (ev_nv a0) → ev_lk w13 2 = some (ev_nv a1) → ev_lk w13 3 = some (ev_nv a2) → ev_lk w13 4 = some (.int (Int32.ofInt x11)) → ev_lk w13 5 = some (.int (Int32.ofInt x12)) → ev_w none (ev_Mof 71) d 32 w13 [] s20 (jb_71_32 Q k a0 a1 a2  K32 x11 x12 s20) ev_eU ev_PU := by
  intro x11 hx11 x12 hx12 s20 w13 e14 e15 e16 e17 e18 e19
  unfold jb_71_32
  refine ev_r_iload (pc := 32) (k := 5) (v := Int32.ofInt x12) (by decide +kernel) (by exact e19) ?_
  refine ev_r_iload (pc := 34) (k := 4) (v := Int32.ofInt x11) (by decide +kernel) (by exact e18) ?_
  refine ev_r_icmp (pc := 36) (q := .ge) (o := 32) (t := 68) (c := x11 ≤ x12) (by decide +kernel) (ev_k_ge hx12 hx11) (by decide +kernel) ?_ ?_
  · intro c21
    refine ev_r_aload_n (pc := 68) (k := 0) (v := .ref k) trivial (by decide +kernel) (by exact e14) ?_
    refine ev_r_bipush (pc := 69) (k := 6) (by decide +kernel) (by decide +kernel) ?_
    refine ev_r_iconst (pc := 71) (k := 0) (by decide +kernel) ?_
    refine ev_r_lconst (pc := 72) (c := 0) (by decide +kernel) ?_
    refine ev_r_lconst (pc := 73) (c := 0) (by decide +kernel) ?_
    refine ev_r_virt (pc := 74) (y := 50) (mi := 76) (na := 4) (k := k) (as := [.int (Int32.ofInt 6), .int (Int32.ofInt 0), .long ((Int64.ofNat ((0 : Fin 2) : Nat))), .long ((Int64.ofNat ((0 : Fin 2) : Nat)))]) (rest := []) (encc := ev_oU) (Q := ev_PU) (fun x S1 h => jt_76 d (by omega) Q k 6 0 ((Int64.ofNat ((0 : Fin 2) : Nat))) ((Int64.ofNat ((0 : Fin 2) : Nat))) hk (by decide) (by decide) s20 x S1 h) (by exact hk) (by decide +kernel) (by decide +kernel) (by decide +kernel) (by decide +kernel) rfl (by (try simp only [ev_sum, ev_nv_cat]); first | done | rfl) ?_
    intro _ s22 _
    show ev_w _ _ _ _ _ [] _ _ _ _
    refine ev_r_aload_n (pc := 77) (k := 0) (v := .ref k) trivial (by decide +kernel) (by exact e14) ?_
    refine ev_r_virt (pc := 78) (y := 54) (mi := 79) (na := 0) (k := k) (as := []) (rest := []) (encc := ev_oU) (Q := ev_PU) (fun x S1 h => jt_79 d (by omega) Q k hk s22 x S1 h) (by exact hk) (by decide +kernel) (by decide +kernel) (by decide +kernel) (by decide +kernel) rfl (by (try simp only [ev_sum, ev_nv_cat]); first | done | rfl) ?_
    intro _ s23 _
    show ev_w _ _ _ _ _ [] _ _ _ _
    exact ev_r_return (pc := 81) (x := ()) trivial (by decide +kernel) (by decide +kernel) rfl
  · intro c21
    refine ev_r_aload_n (pc := 39) (k := 2) (v := ev_nv a1) (ev_isR_nv _) (by decide +kernel) (by exact e16) ?_
    refine ev_r_iload (pc := 40) (k := 5) (v := Int32.ofInt x12) (by decide +kernel) (by exact e19) ?_
    refine ev_r_aload_n (pc := 42) (k := 0) (v := .ref k) trivial (by decide +kernel) (by exact e14) ?_
    refine ev_r_getI (pc := 43) (y := 29) (ci := 6) (f := 5) (fin := 0) (by decide +kernel) (by decide +kernel) (by exact hk) rfl ?_
    intro x24 hx24
    refine ev_r_chk ?_
    intro c25
    refine ev_r_dr (r := a1) (fun v => [.int (Int32.ofInt x24), .int (Int32.ofInt x12), v]) c25 ?_
    refine ev_r_iast (pc := 46) hx24 hx12 (by decide +kernel) (by exact (ha1.resolve_left c25)) ?_
    intro s26
    refine ev_r_aload_n (pc := 47) (k := 3) (v := ev_nv a2) (ev_isR_nv _) (by decide +kernel) (by exact e17) ?_
    refine ev_r_iload (pc := 48) (k := 5) (v := Int32.ofInt x12) (by decide +kernel) (by exact e19) ?_
    refine ev_r_chk ?_
    intro c27
    refine ev_r_dr (r := a2) (fun v => [.int (Int32.ofInt x12), v]) c27 ?_
    refine ev_r_bald (pc := 50) (ty := .boolean) (Or.inr rfl) hx12 (by decide +kernel) (by exact (ha2.resolve_left c27)) ?_
    intro x28 hx28
    refine ev_r_jn (Q := fun K => ∀ (s36 : ev_St) (w29 : List (Nat × Value)), ev_lk w29 0 = some (.ref k) → ev_lk w29 1 = some (ev_nv a0) → ev_lk w29 2 = some (ev_nv a1) → ev_lk w29 3 = some (ev_nv a2) → ev_lk w29 4 = some (.int (Int32.ofInt x11)) → ev_lk w29 5 = some (.int (Int32.ofInt x12)) → ev_w none (ev_Mof 71) d 62 w29 [] s36 (K  s36) ev_eU ev_PU) ?_ ?_
    · intro  s36 w29 e30 e31 e32 e33 e34 e35
      refine ev_r_iinc (pc := 62) (k := 5) (c := 1) (x := x12) (by decide +kernel) (by decide +kernel) (by exact e35) (fun _ => rfl) ?_
      intro x37 hx37
      refine ev_r_goto (pc := 65) (o := (-33)) (t := 32) (by decide +kernel) (by decide +kernel) ?_
      exact hK32 x11 hx11 x37 hx37 s36 _ (by exact (ev_l1 e30 (by decide) (by decide))) (by exact (ev_l1 e31 (by decide) (by decide))) (by exact (ev_l1 e32 (by decide) (by decide))) (by exact (ev_l1 e33 (by decide) (by decide))) (by exact (ev_lk_st1 e34 (by decide) rfl)) (by exact ev_lk_st1_self)
    · intro K62 hK62
      refine ev_r_if (pc := 51) (q := .ne) (o := 11) (t := 62) (c := x28 ≠ 0) (by decide +kernel) (ev_k_ne hx28 ev_rng0) (by decide +kernel) ?_ ?_
      · intro c38
        exact hK62  s26 _ (by exact e14) (by exact e15) (by exact e16) (by exact e17) (by exact e18) (by exact e19)
      · intro c38
        refine ev_r_aload_n (pc := 54) (k := 0) (v := .ref k) trivial (by decide +kernel) (by exact e14) ?_
        refine ev_r_aload_n (pc := 55) (k := 1) (v := ev_nv a0) (ev_isR_nv _) (by decide +kernel) (by exact e15) ?_
        refine ev_r_iload (pc := 56) (k := 5) (v := Int32.ofInt x12) (by decide +kernel) (by exact e19) ?_
        refine ev_r_aload_n (pc := 58) (k := 2) (v := ev_nv a1) (ev_isR_nv _) (by decide +kernel) (by exact e16) ?_
        refine ev_r_virt (pc := 59) (y := 46) (mi := 73) (na := 3) (k := k) (as := [ev_nv a0, .int (Int32.ofInt x12), ev_nv a1]) (rest := []) (encc := ev_oU) (Q := ev_PU) (fun x S1 h => jt_73 d (by omega) Q k a0 x12 a1 hk (by exact ha0) hx12 (by exact ha1) s26 x S1 h) (by exact hk) (by decide +kernel) (by decide +kernel) (by decide +kernel) (by decide +kernel) rfl (by (try simp only [ev_sum, ev_nv_cat]); first | done | rfl) ?_
        intro _ s39 _
        show ev_w _ _ _ _ _ [] _ _ _ _
        exact hK62  s39 _ (by exact e14) (by exact e15) (by exact e16) (by exact e17) (by exact e18) (by exact e19)
theorem jlt_71_32 (d : Nat) (hd : 5 ≤ d + 1) (Q : Nat) (k : Nat) (a0 : Nat) (a1 : Nat) (a2 : Nat) (hk : ev_isOb k 6 = true) (ha0 : a0 = 0 ∨ ev_isOb (a0 - 1) 5 = true) (ha1 : a1 = 0 ∨ ev_isAb (a1 - 1) 1 .int = true) (ha2 : a2 = 0 ∨ ev_isAb (a2 - 1) 1 .boolean = true)   : ∀ q : Nat, ∀ (x11 : Int) (hx11 : ev_rng x11), ∀ (x12 : Int) (hx12 : ev_rng x12), ∀ (s20 : ev_St) (w13 : List (Nat × Value)), ev_lk w13 0 = some (.ref k) → ev_lk w13 1 = some (ev_nv a0) → ev_lk w13 2 = some (ev_nv a1) → ev_lk w13 3 = some (ev_nv a2) → ev_lk w13 4 = some (.int (Int32.ofInt x11)) → ev_lk w13 5 = some (.int (Int32.ofInt x12)) → ev_w none (ev_Mof 71) d 32 w13 [] s20 (jl_71_32 Q k a0 a1 a2  q x11 x12 s20) ev_eU ev_PU := by
  intro q
  induction q with
  | zero =>
    intro x11 hx11 x12 hx12 s20 w13 e14 e15 e16 e17 e18 e19
    exact ev_w_none
  | succ q ih => exact jbt_71_32 d hd Q k a0 a1 a2 hk ha0 ha1 ha2   _ ih
/-- MendBench$Program.write(LMendBench$Pattern;[I[Z)V -/
def jm_71 (Q : Nat) (k : Nat) (a0 : Nat) (a1 : Nat) (a2 : Nat) (S : ev_St) : Option ((Unit) × ev_St) := ev_if (a0 ≠ 0) (ev_b (S.1 ((a0 - 1)) 11) fun x2 => ev_if (a1 ≠ 0) (ev_b (ev_aln ((a1 - 1)) : Int) fun x4 => ev_if (a2 ≠ 0) (ev_b (ev_aln ((a2 - 1)) : Int) fun x6 => ev_b (ev_imin x4 x6) fun x7 => ev_b (ev_imin x2 x7) fun x8 => ev_bd (jm_72 Q k a0 a2 x8 S) fun _ s9 => ev_b (ev_pI s9 k 5 0) fun s10 => jl_71_32 Q k a0 a1 a2  Q x8 0 s10)))
theorem jt_71 (d : Nat) (hd : 5 ≤ d) (Q : Nat) (k : Nat) (a0 : Nat) (a1 : Nat) (a2 : Nat) (hk : ev_isOb k 6 = true) (ha0 : a0 = 0 ∨ ev_isOb (a0 - 1) 5 = true) (ha1 : a1 = 0 ∨ ev_isAb (a1 - 1) 1 .int = true) (ha2 : a2 = 0 ∨ ev_isAb (a2 - 1) 1 .boolean = true) (S : ev_St) (x : Unit) (S' : ev_St) (hJ : jm_71 Q k a0 a1 a2 S = some (x, S')) : ev_Ref d 71 [.ref k, ev_nv a0, ev_nv a1, ev_nv a2] S (ev_eU x) S' (ev_PU x) := by
  obtain ⟨d, rfl⟩ : ∃ e, d = e + 1 := ⟨d - 1, by omega⟩
  refine ev_ref_of (P := ev_PU) (lv := [(0, .ref k), (1, ev_nv a0), (2, ev_nv a1), (3, ev_nv a2)]) (by decide +kernel) (by (try simp only [ev_sum, ev_nv_cat]); first | done | rfl) (by (try simp only [lv_args, ev_nv_cat]); first | done | rfl) ?_ x S' hJ
  unfold jm_71
  refine ev_r_aload_n (pc := 0) (k := 1) (v := ev_nv a0) (ev_isR_nv _) (by decide +kernel) (by rfl) ?_
  refine ev_r_chk ?_
  intro c1
  refine ev_r_dr (r := a0) (fun v => [v]) c1 ?_
  refine ev_r_getI (pc := 1) (y := 33) (ci := 5) (f := 11) (fin := 0) (by decide +kernel) (by decide +kernel) (by exact (ha0.resolve_left c1)) rfl ?_
  intro x2 hx2
  refine ev_r_aload_n (pc := 4) (k := 2) (v := ev_nv a1) (ev_isR_nv _) (by decide +kernel) (by rfl) ?_
  refine ev_r_chk ?_
  intro c3
  refine ev_r_dr (r := a1) (fun v => [v, .int (Int32.ofInt x2)]) c3 ?_
  refine ev_r_alen (pc := 5) (kd := 1) (ty := .int) (Or.inl rfl) (by decide +kernel) (by exact (ha1.resolve_left c3)) ?_
  intro x4 hx4
  refine ev_r_aload_n (pc := 6) (k := 3) (v := ev_nv a2) (ev_isR_nv _) (by decide +kernel) (by rfl) ?_
  refine ev_r_chk ?_
  intro c5
  refine ev_r_dr (r := a2) (fun v => [v, .int (Int32.ofInt x4), .int (Int32.ofInt x2)]) c5 ?_
  refine ev_r_alen (pc := 7) (kd := 1) (ty := .boolean) (Or.inl rfl) (by decide +kernel) (by exact (ha2.resolve_left c5)) ?_
  intro x6 hx6
  refine ev_r_mm1 (pc := 8) (y := 36) (kd := 9) (Or.inl rfl) (by decide +kernel) (by decide +kernel) (by (try simp only [ev_sum, ev_nv_cat]); first | done | rfl) ?_
  intro x7 hx7
  refine ev_r_mm1 (pc := 11) (y := 36) (kd := 9) (Or.inl rfl) (by decide +kernel) (by decide +kernel) (by (try simp only [ev_sum, ev_nv_cat]); first | done | rfl) ?_
  intro x8 hx8
  refine ev_r_istore (pc := 14) (k := 4) (by decide +kernel) (by decide +kernel) rfl ?_
  refine ev_r_aload_n (pc := 16) (k := 0) (v := .ref k) trivial (by decide +kernel) (by exact (ev_l1 (by rfl) (by decide) (by decide))) ?_
  refine ev_r_aload_n (pc := 17) (k := 1) (v := ev_nv a0) (ev_isR_nv _) (by decide +kernel) (by exact (ev_l1 (by rfl) (by decide) (by decide))) ?_
  refine ev_r_aload_n (pc := 18) (k := 3) (v := ev_nv a2) (ev_isR_nv _) (by decide +kernel) (by exact (ev_lk_st1 (by rfl) (by decide) (ev_nv_cat _))) ?_
  refine ev_r_iload (pc := 19) (k := 4) (v := Int32.ofInt x8) (by decide +kernel) (by exact ev_lk_st1_self) ?_
  refine ev_r_virt (pc := 21) (y := 42) (mi := 72) (na := 3) (k := k) (as := [ev_nv a0, ev_nv a2, .int (Int32.ofInt x8)]) (rest := []) (encc := ev_oU) (Q := ev_PU) (fun x S1 h => jt_72 d (by omega) Q k a0 a2 x8 hk (by exact ha0) (by exact ha2) hx8 S x S1 h) (by exact hk) (by decide +kernel) (by decide +kernel) (by decide +kernel) (by decide +kernel) rfl (by (try simp only [ev_sum, ev_nv_cat]); first | done | rfl) ?_
  intro _ s9 _
  show ev_w _ _ _ _ _ [] _ _ _ _
  refine ev_r_aload_n (pc := 24) (k := 0) (v := .ref k) trivial (by decide +kernel) (by exact (ev_l1 (by rfl) (by decide) (by decide))) ?_
  refine ev_r_iconst (pc := 25) (k := 0) (by decide +kernel) ?_
  refine ev_r_putI (pc := 26) (y := 29) (ci := 6) (f := 5) (by decide) (by decide +kernel) (by decide +kernel) (by exact hk) rfl rfl ?_
  intro s10
  refine ev_r_iconst (pc := 29) (k := 0) (by decide +kernel) ?_
  refine ev_r_istore (pc := 30) (k := 5) (by decide +kernel) (by decide +kernel) rfl ?_
  exact jlt_71_32 d hd Q k a0 a1 a2 hk ha0 ha1 ha2   Q x8 hx8 0 (by decide) s10 _ (by exact (ev_l1 (ev_l1 (by rfl) (by decide) (by decide)) (by decide) (by decide))) (by exact (ev_l1 (ev_l1 (by rfl) (by decide) (by decide)) (by decide) (by decide))) (by exact (ev_l1 (ev_l1 (by rfl) (by decide) (by decide)) (by decide) (by decide))) (by exact (ev_l1 (ev_lk_st1 (by rfl) (by decide) (ev_nv_cat _)) (by decide) (by decide))) (by exact (ev_lk_st1 ev_lk_st1_self (by decide) rfl)) (by exact ev_lk_st1_self)
def jb_29_7 (Q : Nat)   (K7 : Int → ev_St → Option ((Unit) × ev_St)) (x2 : Int) (s6 : ev_St) : Option ((Unit) × ev_St) := ev_b (s6.2.2.1 221 9) fun r7 => ev_if (r7 ≠ 0) (ev_b (s6.1 ((r7 - 1)) 11) fun x9 => ev_jn (fun  (s12 : ev_St) => ev_b (s12.2.2.1 221 9) fun r13 => ev_if (r13 ≠ 0) (ev_bd (jm_60 Q ((r13 - 1)) s12) fun x16 s15 => ev_b (s15.2.2.1 221 9) fun r17 => ev_if (r17 ≠ 0) (ev_bd (jm_59 Q ((r17 - 1)) x16 s15) fun x20 s19 => if x20 ≠ 0 then (ev_b (s19.2.2.1 221 9) fun r22 => ev_if ((0 : Int) ≤ x16 ∧ x16 < (ev_aln 222 : Int)) (ev_b (s19.1 222 (Int.toNat x16)) fun x23 => ev_if (r22 ≠ 0) (ev_b (ev_pI s19 ((r22 - 1)) 16 x23) fun s25 => ev_b (s25.2.2.1 221 9) fun r26 => ev_ck (2 * x16) fun x27 => ev_if ((0 : Int) ≤ x27 ∧ x27 < (ev_aln 224 : Int)) (ev_b (s25.2.1 224 (Int.toNat x27)) fun y28 => ev_if (r26 ≠ 0) (ev_b (ev_pL s25 ((r26 - 1)) 17 y28) fun s30 => ev_b (s30.2.2.1 221 9) fun r31 => ev_ck (2 * x16) fun x32 => ev_ck (x32 + 1) fun x33 => ev_if ((0 : Int) ≤ x33 ∧ x33 < (ev_aln 224 : Int)) (ev_b (s30.2.1 224 (Int.toNat x33)) fun y34 => ev_if (r31 ≠ 0) (ev_b (ev_pL s30 ((r31 - 1)) 18 y34) fun s36 => ev_b (s36.2.2.1 221 9) fun r37 => ev_ck (2 * x16) fun x38 => ev_if ((0 : Int) ≤ x38 ∧ x38 < (ev_aln 227 : Int)) (ev_b (s36.2.1 227 (Int.toNat x38)) fun y39 => ev_ck (2 * x16) fun x40 => ev_ck (x40 + 1) fun x41 => ev_if ((0 : Int) ≤ x41 ∧ x41 < (ev_aln 227 : Int)) (ev_b (s36.2.1 227 (Int.toNat x41)) fun y42 => ev_bd (jm_30 Q y39 y42 s36) fun x44 s43 => ev_if (r37 ≠ 0) (ev_b (ev_pI s43 ((r37 - 1)) 19 x44) fun s46 => ev_bd (jm_40 Q  s46) fun _ s47 => ev_b (s47.2.2.1 221 9) fun r48 => ev_if ((0 : Int) ≤ x16 ∧ x16 < (ev_aln 223 : Int)) (ev_b (s47.1 223 (Int.toNat x16)) fun x49 => ev_jn (fun (x51 : Int) (r50 : Nat) (s54 : ev_St) => ev_if (r50 ≠ 0) (ev_if (ev_bl x51) (ev_b (ev_pI s54 ((r50 - 1)) 14 x51) fun s56 => ev_b (s56.2.2.1 221 9) fun r58 => ev_b (s56.2.2.1 221 9) fun r59 => ev_if (r59 ≠ 0) (ev_b (s56.1 ((r59 - 1)) 14) fun x61 => ev_jn (fun (x63 : Int) (r62 : Nat) (s66 : ev_St) => ev_if (r62 ≠ 0) (ev_if (ev_bl x63) (ev_b (ev_pI s66 ((r62 - 1)) 15 x63) fun s68 => ev_b (s68.2.2.1 221 9) fun r70 => ev_if (r70 ≠ 0) (ev_b (s68.1 ((r70 - 1)) 14) fun x72 => if x72 = 0 then (some ((), s68)) else (ev_b (s68.2.2.1 221 9) fun r74 => ev_if (r74 ≠ 0) (ev_b (s68.2.2.1 221 9) fun r76 => ev_bd (jm_71 Q (((r74 - 1) + 12)) r76 ((228 + 1)) ((229 + 1)) s68) fun _ s77 => some ((), s77))))))) fun K190 => ev_jn (fun (r78 : Nat) (s81 : ev_St) => K190 0 r78 s81) fun K189 => if x61 = 0 then (K189 r58 s56) else (ev_bd (jm_39 Q  s56) fun x84 s83 => if x84 ≠ 0 then (K189 r58 s83) else (K190 1 r58 s83)))))) fun K161 => ev_jn (fun (r86 : Nat) (s89 : ev_St) => K161 0 r86 s89) fun K160 => if 200 < x49 then (K160 r48 s47) else (ev_bd (jm_38 Q  s47) fun x92 s91 => if x92 = 0 then (K160 r48 s91) else (K161 1 r48 s91))))))))))))) else (some ((), s19))))) fun K36 => if x9 ≤ x2 then (K36  s6) else (if 400 ≤ x2 then (K36  s6) else (ev_bd (jm_31 Q x2 s6) fun _ s96 => ev_ck (x2 + 1) fun x97 => K7 x97 s96)))
def jl_29_7 (Q : Nat)   : Nat → Int → ev_St → Option ((Unit) × ev_St)
  | 0 => fun _ _ => none
  | q + 1 => jb_29_7 Q   (jl_29_7 Q   q)
theorem jbt_29_7 (d : Nat) (hd : 6 ≤ d + 1) (Q : Nat)     (K7 : Int → ev_St → Option ((Unit) × ev_St)) (hK7 : ∀ (x2 : Int) (hx2 : ev_rng x2), ∀ (s6 : ev_St) (w3 : List (Nat × Value)), ev_lk w3 0 = some (.ref 221) → ev_lk w3 2 = some (.int (Int32.ofInt x2)) → ev_w none (ev_Mof 29) d 7 w3 [] s6 (K7 x2 s6) ev_eU ev_PU) : ∀ (x2 : Int) (hx2 : ev_rng x2), ∀ (s6 : ev_St) (w3 : List (Nat × Value)), ev_lk w3 0 = some (.ref 221) → ev_lk w3 2 = some (.int (Int32.ofInt x2)) → ev_w none (ev_Mof 29) d 7 w3 [] s6 (jb_29_7 Q   K7 x2 s6) ev_eU ev_PU := by
  intro x2 hx2 s6 w3 e4 e5
  unfold jb_29_7
  refine ev_r_iload_n (pc := 7) (k := 2) (v := Int32.ofInt x2) (by decide +kernel) (by exact e5) ?_
  refine ev_r_aload_n (pc := 8) (k := 0) (v := .ref 221) trivial (by decide +kernel) (by exact e4) ?_
  refine ev_r_getR (pc := 9) (y := 47) (ci := 2) (f := 9) (fin := 0) (t := 5) (by decide +kernel) (by decide +kernel) (by exact ev_ob_221) rfl rfl ?_
  intro r7 hr7
  have hr7 : r7 = 0 ∨ ev_isOb (r7 - 1) 5 = true := hr7
  refine ev_r_chk ?_
  intro c8
  refine ev_r_dr (r := r7) (fun v => [v, .int (Int32.ofInt x2)]) c8 ?_
  refine ev_r_getI (pc := 12) (y := 51) (ci := 5) (f := 11) (fin := 0) (by decide +kernel) (by decide +kernel) (by exact (hr7.resolve_left c8)) rfl ?_
  intro x9 hx9
  refine ev_r_jn (Q := fun K => ∀ (s12 : ev_St) (w10 : List (Nat × Value)), ev_lk w10 0 = some (.ref 221) → ev_w none (ev_Mof 29) d 36 w10 [] s12 (K  s12) ev_eU ev_PU) ?_ ?_
  · intro  s12 w10 e11
    refine ev_r_aload_n (pc := 36) (k := 0) (v := .ref 221) trivial (by decide +kernel) (by exact e11) ?_
    refine ev_r_getR (pc := 37) (y := 47) (ci := 2) (f := 9) (fin := 0) (t := 5) (by decide +kernel) (by decide +kernel) (by exact ev_ob_221) rfl rfl ?_
    intro r13 hr13
    have hr13 : r13 = 0 ∨ ev_isOb (r13 - 1) 5 = true := hr13
    refine ev_r_chk ?_
    intro c14
    refine ev_r_dr (r := r13) (fun v => [v]) c14 ?_
    refine ev_r_virt (pc := 40) (y := 59) (mi := 60) (na := 0) (k := (r13 - 1)) (as := []) (rest := []) (encc := ev_oI) (Q := ev_rng) (fun x S1 h => jt_60 d (by omega) Q ((r13 - 1)) (hr13.resolve_left c14) s12 x S1 h) (by exact (hr13.resolve_left c14)) (by decide +kernel) (by decide +kernel) (by decide +kernel) (by decide +kernel) rfl (by (try simp only [ev_sum, ev_nv_cat]); first | done | rfl) ?_
    intro x16 s15 hx16
    show ev_w _ _ _ _ _ [.int (Int32.ofInt x16)] _ _ _ _
    refine ev_r_istore_n (pc := 43) (k := 2) (by decide +kernel) (by decide +kernel) rfl ?_
    refine ev_r_aload_n (pc := 44) (k := 0) (v := .ref 221) trivial (by decide +kernel) (by exact (ev_l1 e11 (by decide) (by decide))) ?_
    refine ev_r_getR (pc := 45) (y := 47) (ci := 2) (f := 9) (fin := 0) (t := 5) (by decide +kernel) (by decide +kernel) (by exact ev_ob_221) rfl rfl ?_
    intro r17 hr17
    have hr17 : r17 = 0 ∨ ev_isOb (r17 - 1) 5 = true := hr17
    refine ev_r_iload_n (pc := 48) (k := 2) (v := Int32.ofInt x16) (by decide +kernel) (by exact ev_lk_st1_self) ?_
    refine ev_r_chk ?_
    intro c18
    refine ev_r_dr (r := r17) (fun v => [.int (Int32.ofInt x16), v]) c18 ?_
    refine ev_r_virt (pc := 49) (y := 63) (mi := 59) (na := 1) (k := (r17 - 1)) (as := [.int (Int32.ofInt x16)]) (rest := []) (encc := ev_oI) (Q := ev_bl) (fun x S1 h => jt_59 d (by omega) Q ((r17 - 1)) x16 (hr17.resolve_left c18) hx16 s15 x S1 h) (by exact (hr17.resolve_left c18)) (by decide +kernel) (by decide +kernel) (by decide +kernel) (by decide +kernel) rfl (by (try simp only [ev_sum, ev_nv_cat]); first | done | rfl) ?_
    intro x20 s19 hx20
    replace hx20 := ev_bl_rng hx20
    show ev_w _ _ _ _ _ [.int (Int32.ofInt x20)] _ _ _ _
    refine ev_r_if (pc := 52) (q := .ne) (o := 4) (t := 56) (c := x20 ≠ 0) (by decide +kernel) (ev_k_ne hx20 ev_rng0) (by decide +kernel) ?_ ?_
    · intro c21
      refine ev_r_aload_n (pc := 56) (k := 0) (v := .ref 221) trivial (by decide +kernel) (by exact (ev_l1 e11 (by decide) (by decide))) ?_
      refine ev_r_getR (pc := 57) (y := 47) (ci := 2) (f := 9) (fin := 0) (t := 5) (by decide +kernel) (by decide +kernel) (by exact ev_ob_221) rfl rfl ?_
      intro r22 hr22
      have hr22 : r22 = 0 ∨ ev_isOb (r22 - 1) 5 = true := hr22
      refine ev_r_aload_n (pc := 60) (k := 0) (v := .ref 221) trivial (by decide +kernel) (by exact (ev_l1 e11 (by decide) (by decide))) ?_
      refine ev_r_getC (pc := 61) (y := 11) (ci := 2) (f := 0) (fin := 1) (k' := 222) (by decide +kernel) (by decide +kernel) (by exact ev_ob_221) rfl rfl ?_
      refine ev_r_iload_n (pc := 64) (k := 2) (v := Int32.ofInt x16) (by decide +kernel) (by exact ev_lk_st1_self) ?_
      refine ev_r_iald (pc := 65) hx16 (by decide +kernel) (by exact ev_ab_222) ?_
      intro x23 hx23
      refine ev_r_chk ?_
      intro c24
      refine ev_r_dr (r := r22) (fun v => [.int (Int32.ofInt x23), v]) c24 ?_
      refine ev_r_putI (pc := 66) (y := 67) (ci := 5) (f := 16) hx23 (by decide +kernel) (by decide +kernel) (by exact (hr22.resolve_left c24)) rfl rfl ?_
      intro s25
      refine ev_r_aload_n (pc := 69) (k := 0) (v := .ref 221) trivial (by decide +kernel) (by exact (ev_l1 e11 (by decide) (by decide))) ?_
      refine ev_r_getR (pc := 70) (y := 47) (ci := 2) (f := 9) (fin := 0) (t := 5) (by decide +kernel) (by decide +kernel) (by exact ev_ob_221) rfl rfl ?_
      intro r26 hr26
      have hr26 : r26 = 0 ∨ ev_isOb (r26 - 1) 5 = true := hr26
      refine ev_r_aload_n (pc := 73) (k := 0) (v := .ref 221) trivial (by decide +kernel) (by exact (ev_l1 e11 (by decide) (by decide))) ?_
      refine ev_r_getC (pc := 74) (y := 20) (ci := 2) (f := 2) (fin := 1) (k' := 224) (by decide +kernel) (by decide +kernel) (by exact ev_ob_221) rfl rfl ?_
      refine ev_r_iconst (pc := 77) (k := 2) (by decide +kernel) ?_
      refine ev_r_iload_n (pc := 78) (k := 2) (v := Int32.ofInt x16) (by decide +kernel) (by exact ev_lk_st1_self) ?_
      refine ev_r_imul (pc := 79) (by decide +kernel) ?_
      intro x27 hx27
      refine ev_r_lald (pc := 80) hx27 (by decide +kernel) (by exact ev_ab_224) ?_
      intro y28
      refine ev_r_chk ?_
      intro c29
      refine ev_r_dr (r := r26) (fun v => [.long y28, v]) c29 ?_
      refine ev_r_putL (pc := 81) (y := 70) (ci := 5) (f := 17) (by decide +kernel) (by decide +kernel) (by exact (hr26.resolve_left c29)) rfl rfl ?_
      intro s30
      refine ev_r_aload_n (pc := 84) (k := 0) (v := .ref 221) trivial (by decide +kernel) (by exact (ev_l1 e11 (by decide) (by decide))) ?_
      refine ev_r_getR (pc := 85) (y := 47) (ci := 2) (f := 9) (fin := 0) (t := 5) (by decide +kernel) (by decide +kernel) (by exact ev_ob_221) rfl rfl ?_
      intro r31 hr31
      have hr31 : r31 = 0 ∨ ev_isOb (r31 - 1) 5 = true := hr31
      refine ev_r_aload_n (pc := 88) (k := 0) (v := .ref 221) trivial (by decide +kernel) (by exact (ev_l1 e11 (by decide) (by decide))) ?_
      refine ev_r_getC (pc := 89) (y := 20) (ci := 2) (f := 2) (fin := 1) (k' := 224) (by decide +kernel) (by decide +kernel) (by exact ev_ob_221) rfl rfl ?_
      refine ev_r_iconst (pc := 92) (k := 2) (by decide +kernel) ?_
      refine ev_r_iload_n (pc := 93) (k := 2) (v := Int32.ofInt x16) (by decide +kernel) (by exact ev_lk_st1_self) ?_
      refine ev_r_imul (pc := 94) (by decide +kernel) ?_
      intro x32 hx32
      refine ev_r_iconst (pc := 95) (k := 1) (by decide +kernel) ?_
      refine ev_r_iadd (pc := 96) (by decide +kernel) ?_
      intro x33 hx33
      refine ev_r_lald (pc := 97) hx33 (by decide +kernel) (by exact ev_ab_224) ?_
      intro y34
      refine ev_r_chk ?_
      intro c35
      refine ev_r_dr (r := r31) (fun v => [.long y34, v]) c35 ?_
      refine ev_r_putL (pc := 98) (y := 74) (ci := 5) (f := 18) (by decide +kernel) (by decide +kernel) (by exact (hr31.resolve_left c35)) rfl rfl ?_
      intro s36
      refine ev_r_aload_n (pc := 101) (k := 0) (v := .ref 221) trivial (by decide +kernel) (by exact (ev_l1 e11 (by decide) (by decide))) ?_
      refine ev_r_getR (pc := 102) (y := 47) (ci := 2) (f := 9) (fin := 0) (t := 5) (by decide +kernel) (by decide +kernel) (by exact ev_ob_221) rfl rfl ?_
      intro r37 hr37
      have hr37 : r37 = 0 ∨ ev_isOb (r37 - 1) 5 = true := hr37
      refine ev_r_aload_n (pc := 105) (k := 0) (v := .ref 221) trivial (by decide +kernel) (by exact (ev_l1 e11 (by decide) (by decide))) ?_
      refine ev_r_getC (pc := 106) (y := 30) (ci := 2) (f := 5) (fin := 1) (k' := 227) (by decide +kernel) (by decide +kernel) (by exact ev_ob_221) rfl rfl ?_
      refine ev_r_iconst (pc := 109) (k := 2) (by decide +kernel) ?_
      refine ev_r_iload_n (pc := 110) (k := 2) (v := Int32.ofInt x16) (by decide +kernel) (by exact ev_lk_st1_self) ?_
      refine ev_r_imul (pc := 111) (by decide +kernel) ?_
      intro x38 hx38
      refine ev_r_lald (pc := 112) hx38 (by decide +kernel) (by exact ev_ab_227) ?_
      intro y39
      refine ev_r_aload_n (pc := 113) (k := 0) (v := .ref 221) trivial (by decide +kernel) (by exact (ev_l1 e11 (by decide) (by decide))) ?_
      refine ev_r_getC (pc := 114) (y := 30) (ci := 2) (f := 5) (fin := 1) (k' := 227) (by decide +kernel) (by decide +kernel) (by exact ev_ob_221) rfl rfl ?_
      refine ev_r_iconst (pc := 117) (k := 2) (by decide +kernel) ?_
      refine ev_r_iload_n (pc := 118) (k := 2) (v := Int32.ofInt x16) (by decide +kernel) (by exact ev_lk_st1_self) ?_
      refine ev_r_imul (pc := 119) (by decide +kernel) ?_
      intro x40 hx40
      refine ev_r_iconst (pc := 120) (k := 1) (by decide +kernel) ?_
      refine ev_r_iadd (pc := 121) (by decide +kernel) ?_
      intro x41 hx41
      refine ev_r_lald (pc := 122) hx41 (by decide +kernel) (by exact ev_ab_227) ?_
      intro y42
      refine ev_r_stat (pc := 123) (y := 77) (kind := 2) (mi := 30) (na := 2) (as := [.long y39, .long y42]) (rest := [ev_nv r37]) (encc := ev_oI) (Q := ev_rng) (fun x S1 h => jt_30 d (by omega) Q y39 y42  s36 x S1 h) (Or.inl rfl) (by decide +kernel) (by decide +kernel) (by decide +kernel) (by decide +kernel) rfl (by (try simp only [ev_sum, ev_nv_cat]); first | done | rfl) ?_
      intro x44 s43 hx44
      show ev_w _ _ _ _ _ [.int (Int32.ofInt x44), ev_nv r37] _ _ _ _
      refine ev_r_chk ?_
      intro c45
      refine ev_r_dr (r := r37) (fun v => [.int (Int32.ofInt x44), v]) c45 ?_
      refine ev_r_putI (pc := 126) (y := 81) (ci := 5) (f := 19) hx44 (by decide +kernel) (by decide +kernel) (by exact (hr37.resolve_left c45)) rfl rfl ?_
      intro s46
      refine ev_r_aload_n (pc := 129) (k := 0) (v := .ref 221) trivial (by decide +kernel) (by exact (ev_l1 e11 (by decide) (by decide))) ?_
      refine ev_r_virt (pc := 130) (y := 84) (mi := 40) (na := 0) (k := 221) (as := []) (rest := []) (encc := ev_oU) (Q := ev_PU) (fun x S1 h => jt_40 d (by omega) Q   s46 x S1 h) (by exact ev_ob_221) (by decide +kernel) (by decide +kernel) (by decide +kernel) (by decide +kernel) rfl (by (try simp only [ev_sum, ev_nv_cat]); first | done | rfl) ?_
      intro _ s47 _
      show ev_w _ _ _ _ _ [] _ _ _ _
      refine ev_r_aload_n (pc := 133) (k := 0) (v := .ref 221) trivial (by decide +kernel) (by exact (ev_l1 e11 (by decide) (by decide))) ?_
      refine ev_r_getR (pc := 134) (y := 47) (ci := 2) (f := 9) (fin := 0) (t := 5) (by decide +kernel) (by decide +kernel) (by exact ev_ob_221) rfl rfl ?_
      intro r48 hr48
      have hr48 : r48 = 0 ∨ ev_isOb (r48 - 1) 5 = true := hr48
      refine ev_r_aload_n (pc := 137) (k := 0) (v := .ref 221) trivial (by decide +kernel) (by exact (ev_l1 e11 (by decide) (by decide))) ?_
      refine ev_r_getC (pc := 138) (y := 17) (ci := 2) (f := 1) (fin := 1) (k' := 223) (by decide +kernel) (by decide +kernel) (by exact ev_ob_221) rfl rfl ?_
      refine ev_r_iload_n (pc := 141) (k := 2) (v := Int32.ofInt x16) (by decide +kernel) (by exact ev_lk_st1_self) ?_
      refine ev_r_iald (pc := 142) hx16 (by decide +kernel) (by exact ev_ab_223) ?_
      intro x49 hx49
      refine ev_r_sipush (pc := 143) (k := 200) (by decide +kernel) (by decide +kernel) ?_
      refine ev_r_jn (Q := fun K => ∀ (x51 : Int) (hx51 : ev_rng x51), ∀ (r50 : Nat) (hr50 : r50 = 0 ∨ ev_isOb (r50 - 1) 5 = true), ∀ (s54 : ev_St) (w52 : List (Nat × Value)), ev_lk w52 0 = some (.ref 221) → ev_w none (ev_Mof 29) d 161 w52 [.int (Int32.ofInt x51), ev_nv r50] s54 (K x51 r50 s54) ev_eU ev_PU) ?_ ?_
      · intro x51 hx51 r50 hr50 s54 w52 e53
        refine ev_r_chk ?_
        intro c55
        refine ev_r_dr (r := r50) (fun v => [.int (Int32.ofInt x51), v]) c55 ?_
        refine ev_r_chk ?_
        intro c57
        refine ev_r_putI (pc := 161) (y := 91) (ci := 5) (f := 14) hx51 (by decide +kernel) (by decide +kernel) (by exact (hr50.resolve_left c55)) rfl (ev_fit_bl c57) ?_
        intro s56
        refine ev_r_aload_n (pc := 164) (k := 0) (v := .ref 221) trivial (by decide +kernel) (by exact e53) ?_
        refine ev_r_getR (pc := 165) (y := 47) (ci := 2) (f := 9) (fin := 0) (t := 5) (by decide +kernel) (by decide +kernel) (by exact ev_ob_221) rfl rfl ?_
        intro r58 hr58
        have hr58 : r58 = 0 ∨ ev_isOb (r58 - 1) 5 = true := hr58
        refine ev_r_aload_n (pc := 168) (k := 0) (v := .ref 221) trivial (by decide +kernel) (by exact e53) ?_
        refine ev_r_getR (pc := 169) (y := 47) (ci := 2) (f := 9) (fin := 0) (t := 5) (by decide +kernel) (by decide +kernel) (by exact ev_ob_221) rfl rfl ?_
        intro r59 hr59
        have hr59 : r59 = 0 ∨ ev_isOb (r59 - 1) 5 = true := hr59
        refine ev_r_chk ?_
        intro c60
        refine ev_r_dr (r := r59) (fun v => [v, ev_nv r58]) c60 ?_
        refine ev_r_getI (pc := 172) (y := 91) (ci := 5) (f := 14) (fin := 0) (by decide +kernel) (by decide +kernel) (by exact (hr59.resolve_left c60)) rfl ?_
        intro x61 hx61
        refine ev_r_jn (Q := fun K => ∀ (x63 : Int) (hx63 : ev_rng x63), ∀ (r62 : Nat) (hr62 : r62 = 0 ∨ ev_isOb (r62 - 1) 5 = true), ∀ (s66 : ev_St) (w64 : List (Nat × Value)), ev_lk w64 0 = some (.ref 221) → ev_w none (ev_Mof 29) d 190 w64 [.int (Int32.ofInt x63), ev_nv r62] s66 (K x63 r62 s66) ev_eU ev_PU) ?_ ?_
        · intro x63 hx63 r62 hr62 s66 w64 e65
          refine ev_r_chk ?_
          intro c67
          refine ev_r_dr (r := r62) (fun v => [.int (Int32.ofInt x63), v]) c67 ?_
          refine ev_r_chk ?_
          intro c69
          refine ev_r_putI (pc := 190) (y := 98) (ci := 5) (f := 15) hx63 (by decide +kernel) (by decide +kernel) (by exact (hr62.resolve_left c67)) rfl (ev_fit_bl c69) ?_
          intro s68
          refine ev_r_aload_n (pc := 193) (k := 0) (v := .ref 221) trivial (by decide +kernel) (by exact e65) ?_
          refine ev_r_getR (pc := 194) (y := 47) (ci := 2) (f := 9) (fin := 0) (t := 5) (by decide +kernel) (by decide +kernel) (by exact ev_ob_221) rfl rfl ?_
          intro r70 hr70
          have hr70 : r70 = 0 ∨ ev_isOb (r70 - 1) 5 = true := hr70
          refine ev_r_chk ?_
          intro c71
          refine ev_r_dr (r := r70) (fun v => [v]) c71 ?_
          refine ev_r_getI (pc := 197) (y := 91) (ci := 5) (f := 14) (fin := 0) (by decide +kernel) (by decide +kernel) (by exact (hr70.resolve_left c71)) rfl ?_
          intro x72 hx72
          refine ev_r_if (pc := 200) (q := .eq) (o := 25) (t := 225) (c := x72 = 0) (by decide +kernel) (ev_k_eq hx72 ev_rng0) (by decide +kernel) ?_ ?_
          · intro c73
            exact ev_r_return (pc := 225) (x := ()) trivial (by decide +kernel) (by decide +kernel) rfl
          · intro c73
            refine ev_r_aload_n (pc := 203) (k := 0) (v := .ref 221) trivial (by decide +kernel) (by exact e65) ?_
            refine ev_r_getR (pc := 204) (y := 47) (ci := 2) (f := 9) (fin := 0) (t := 5) (by decide +kernel) (by decide +kernel) (by exact ev_ob_221) rfl rfl ?_
            intro r74 hr74
            have hr74 : r74 = 0 ∨ ev_isOb (r74 - 1) 5 = true := hr74
            refine ev_r_chk ?_
            intro c75
            refine ev_r_dr (r := r74) (fun v => [v]) c75 ?_
            refine ev_r_getC (pc := 207) (y := 101) (ci := 5) (f := 13) (fin := 2) (k' := ((r74 - 1) + 12)) (by decide +kernel) (by decide +kernel) (by exact (hr74.resolve_left c75)) rfl rfl ?_
            refine ev_r_aload_n (pc := 210) (k := 0) (v := .ref 221) trivial (by decide +kernel) (by exact e65) ?_
            refine ev_r_getR (pc := 211) (y := 47) (ci := 2) (f := 9) (fin := 0) (t := 5) (by decide +kernel) (by decide +kernel) (by exact ev_ob_221) rfl rfl ?_
            intro r76 hr76
            have hr76 : r76 = 0 ∨ ev_isOb (r76 - 1) 5 = true := hr76
            refine ev_r_aload_n (pc := 214) (k := 0) (v := .ref 221) trivial (by decide +kernel) (by exact e65) ?_
            refine ev_r_getC (pc := 215) (y := 33) (ci := 2) (f := 6) (fin := 1) (k' := 228) (by decide +kernel) (by decide +kernel) (by exact ev_ob_221) rfl rfl ?_
            refine ev_r_aload_n (pc := 218) (k := 0) (v := .ref 221) trivial (by decide +kernel) (by exact e65) ?_
            refine ev_r_getC (pc := 219) (y := 36) (ci := 2) (f := 7) (fin := 1) (k' := 229) (by decide +kernel) (by decide +kernel) (by exact ev_ob_221) rfl rfl ?_
            refine ev_r_virt (pc := 222) (y := 105) (mi := 71) (na := 3) (k := ((r74 - 1) + 12)) (as := [ev_nv r76, ev_nv ((228 + 1)), ev_nv ((229 + 1))]) (rest := []) (encc := ev_oU) (Q := ev_PU) (fun x S1 h => jt_71 d (by omega) Q (((r74 - 1) + 12)) r76 ((228 + 1)) ((229 + 1)) (ev_fo_5_13 (hr74.resolve_left c75)) (by exact hr76) (by exact (Or.inr ev_ab_228)) (by exact (Or.inr ev_ab_229)) s68 x S1 h) (by exact (ev_fo_5_13 (hr74.resolve_left c75))) (by decide +kernel) (by decide +kernel) (by decide +kernel) (by decide +kernel) rfl (by (try simp only [ev_sum, ev_nv_cat]); first | done | rfl) ?_
            intro _ s77 _
            show ev_w _ _ _ _ _ [] _ _ _ _
            exact ev_r_return (pc := 225) (x := ()) trivial (by decide +kernel) (by decide +kernel) rfl
        · intro K190 hK190
          refine ev_r_jn (Q := fun K => ∀ (r78 : Nat) (hr78 : r78 = 0 ∨ ev_isOb (r78 - 1) 5 = true), ∀ (s81 : ev_St) (w79 : List (Nat × Value)), ev_lk w79 0 = some (.ref 221) → ev_w none (ev_Mof 29) d 189 w79 [ev_nv r78] s81 (K r78 s81) ev_eU ev_PU) ?_ ?_
          · intro r78 hr78 s81 w79 e80
            refine ev_r_iconst (pc := 189) (k := 0) (by decide +kernel) ?_
            exact hK190 0 (by decide) r78 hr78 s81 _ (by exact e80)
          · intro K189 hK189
            refine ev_r_if (pc := 175) (q := .eq) (o := 14) (t := 189) (c := x61 = 0) (by decide +kernel) (ev_k_eq hx61 ev_rng0) (by decide +kernel) ?_ ?_
            · intro c82
              exact hK189 r58 hr58 s56 _ (by exact e53)
            · intro c82
              refine ev_r_aload_n (pc := 178) (k := 0) (v := .ref 221) trivial (by decide +kernel) (by exact e53) ?_
              refine ev_r_virt (pc := 179) (y := 95) (mi := 39) (na := 0) (k := 221) (as := []) (rest := [ev_nv r58]) (encc := ev_oI) (Q := ev_bl) (fun x S1 h => jt_39 d (by omega) Q   s56 x S1 h) (by exact ev_ob_221) (by decide +kernel) (by decide +kernel) (by decide +kernel) (by decide +kernel) rfl (by (try simp only [ev_sum, ev_nv_cat]); first | done | rfl) ?_
              intro x84 s83 hx84
              replace hx84 := ev_bl_rng hx84
              show ev_w _ _ _ _ _ [.int (Int32.ofInt x84), ev_nv r58] _ _ _ _
              refine ev_r_if (pc := 182) (q := .ne) (o := 7) (t := 189) (c := x84 ≠ 0) (by decide +kernel) (ev_k_ne hx84 ev_rng0) (by decide +kernel) ?_ ?_
              · intro c85
                exact hK189 r58 hr58 s83 _ (by exact e53)
              · intro c85
                refine ev_r_iconst (pc := 185) (k := 1) (by decide +kernel) ?_
                refine ev_r_goto (pc := 186) (o := 4) (t := 190) (by decide +kernel) (by decide +kernel) ?_
                exact hK190 1 (by decide) r58 hr58 s83 _ (by exact e53)
      · intro K161 hK161
        refine ev_r_jn (Q := fun K => ∀ (r86 : Nat) (hr86 : r86 = 0 ∨ ev_isOb (r86 - 1) 5 = true), ∀ (s89 : ev_St) (w87 : List (Nat × Value)), ev_lk w87 0 = some (.ref 221) → ev_w none (ev_Mof 29) d 160 w87 [ev_nv r86] s89 (K r86 s89) ev_eU ev_PU) ?_ ?_
        · intro r86 hr86 s89 w87 e88
          refine ev_r_iconst (pc := 160) (k := 0) (by decide +kernel) ?_
          exact hK161 0 (by decide) r86 hr86 s89 _ (by exact e88)
        · intro K160 hK160
          refine ev_r_icmp (pc := 146) (q := .gt) (o := 14) (t := 160) (c := 200 < x49) (by decide +kernel) (ev_k_gt hx49 (by decide)) (by decide +kernel) ?_ ?_
          · intro c90
            exact hK160 r48 hr48 s47 _ (by exact (ev_l1 e11 (by decide) (by decide)))
          · intro c90
            refine ev_r_aload_n (pc := 149) (k := 0) (v := .ref 221) trivial (by decide +kernel) (by exact (ev_l1 e11 (by decide) (by decide))) ?_
            refine ev_r_virt (pc := 150) (y := 87) (mi := 38) (na := 0) (k := 221) (as := []) (rest := [ev_nv r48]) (encc := ev_oI) (Q := ev_bl) (fun x S1 h => jt_38 d (by omega) Q   s47 x S1 h) (by exact ev_ob_221) (by decide +kernel) (by decide +kernel) (by decide +kernel) (by decide +kernel) rfl (by (try simp only [ev_sum, ev_nv_cat]); first | done | rfl) ?_
            intro x92 s91 hx92
            replace hx92 := ev_bl_rng hx92
            show ev_w _ _ _ _ _ [.int (Int32.ofInt x92), ev_nv r48] _ _ _ _
            refine ev_r_if (pc := 153) (q := .eq) (o := 7) (t := 160) (c := x92 = 0) (by decide +kernel) (ev_k_eq hx92 ev_rng0) (by decide +kernel) ?_ ?_
            · intro c93
              exact hK160 r48 hr48 s91 _ (by exact (ev_l1 e11 (by decide) (by decide)))
            · intro c93
              refine ev_r_iconst (pc := 156) (k := 1) (by decide +kernel) ?_
              refine ev_r_goto (pc := 157) (o := 4) (t := 161) (by decide +kernel) (by decide +kernel) ?_
              exact hK161 1 (by decide) r48 hr48 s91 _ (by exact (ev_l1 e11 (by decide) (by decide)))
    · intro c21
      exact ev_r_return (pc := 55) (x := ()) trivial (by decide +kernel) (by decide +kernel) rfl
  · intro K36 hK36
    refine ev_r_icmp (pc := 15) (q := .ge) (o := 21) (t := 36) (c := x9 ≤ x2) (by decide +kernel) (ev_k_ge hx2 hx9) (by decide +kernel) ?_ ?_
    · intro c94
      exact hK36  s6 _ (by exact e4)
    · intro c94
      refine ev_r_iload_n (pc := 18) (k := 2) (v := Int32.ofInt x2) (by decide +kernel) (by exact e5) ?_
      refine ev_r_sipush (pc := 19) (k := 400) (by decide +kernel) (by decide +kernel) ?_
      refine ev_r_icmp (pc := 22) (q := .ge) (o := 14) (t := 36) (c := 400 ≤ x2) (by decide +kernel) (ev_k_ge hx2 (by decide)) (by decide +kernel) ?_ ?_
      · intro c95
        exact hK36  s6 _ (by exact e4)
      · intro c95
        refine ev_r_aload_n (pc := 25) (k := 0) (v := .ref 221) trivial (by decide +kernel) (by exact e4) ?_
        refine ev_r_iload_n (pc := 26) (k := 2) (v := Int32.ofInt x2) (by decide +kernel) (by exact e5) ?_
        refine ev_r_virt (pc := 27) (y := 55) (mi := 31) (na := 1) (k := 221) (as := [.int (Int32.ofInt x2)]) (rest := []) (encc := ev_oU) (Q := ev_PU) (fun x S1 h => jt_31 d (by omega) Q x2 hx2 s6 x S1 h) (by exact ev_ob_221) (by decide +kernel) (by decide +kernel) (by decide +kernel) (by decide +kernel) rfl (by (try simp only [ev_sum, ev_nv_cat]); first | done | rfl) ?_
        intro _ s96 _
        show ev_w _ _ _ _ _ [] _ _ _ _
        refine ev_r_iinc (pc := 30) (k := 2) (c := 1) (x := x2) (by decide +kernel) (by decide +kernel) (by exact e5) (fun _ => rfl) ?_
        intro x97 hx97
        refine ev_r_goto (pc := 33) (o := (-26)) (t := 7) (by decide +kernel) (by decide +kernel) ?_
        exact hK7 x97 hx97 s96 _ (by exact (ev_l1 e4 (by decide) (by decide))) (by exact ev_lk_st1_self)
theorem jlt_29_7 (d : Nat) (hd : 6 ≤ d + 1) (Q : Nat)     : ∀ q : Nat, ∀ (x2 : Int) (hx2 : ev_rng x2), ∀ (s6 : ev_St) (w3 : List (Nat × Value)), ev_lk w3 0 = some (.ref 221) → ev_lk w3 2 = some (.int (Int32.ofInt x2)) → ev_w none (ev_Mof 29) d 7 w3 [] s6 (jl_29_7 Q   q x2 s6) ev_eU ev_PU := by
  intro q
  induction q with
  | zero =>
    intro x2 hx2 s6 w3 e4 e5
    exact ev_w_none
  | succ q ih => exact jbt_29_7 d hd Q     _ ih
/-- MendBench$Facts.learn(LMendBench$Pattern;)V -/
def jm_29 (Q : Nat) (a0 : Nat) (S : ev_St) : Option ((Unit) × ev_St) := ev_b (ev_pR S 221 9 a0) fun s1 => jl_29_7 Q   Q 0 s1
theorem jt_29 (d : Nat) (hd : 6 ≤ d) (Q : Nat) (a0 : Nat) (ha0 : a0 = 0 ∨ ev_isOb (a0 - 1) 5 = true) (S : ev_St) (x : Unit) (S' : ev_St) (hJ : jm_29 Q a0 S = some (x, S')) : ev_Ref d 29 [.ref 221, ev_nv a0] S (ev_eU x) S' (ev_PU x) := by
  obtain ⟨d, rfl⟩ : ∃ e, d = e + 1 := ⟨d - 1, by omega⟩
  refine ev_ref_of (P := ev_PU) (lv := [(0, .ref 221), (1, ev_nv a0)]) (by decide +kernel) (by (try simp only [ev_sum, ev_nv_cat]); first | done | rfl) (by (try simp only [lv_args, ev_nv_cat]); first | done | rfl) ?_ x S' hJ
  unfold jm_29
  refine ev_r_aload_n (pc := 0) (k := 0) (v := .ref 221) trivial (by decide +kernel) (by rfl) ?_
  refine ev_r_aload_n (pc := 1) (k := 1) (v := ev_nv a0) (ev_isR_nv _) (by decide +kernel) (by rfl) ?_
  refine ev_r_putR (pc := 2) (y := 47) (ci := 2) (f := 9) (r := a0) (t := 5) (by exact ha0) (by decide +kernel) (by decide +kernel) (by exact ev_ob_221) rfl rfl (by cases a0 <;> rfl) ?_
  intro s1
  refine ev_r_iconst (pc := 5) (k := 0) (by decide +kernel) ?_
  refine ev_r_istore_n (pc := 6) (k := 2) (by decide +kernel) (by decide +kernel) rfl ?_
  exact jlt_29_7 d hd Q     Q 0 (by decide) s1 _ (by exact (ev_l1 (by rfl) (by decide) (by decide))) (by exact ev_lk_st1_self)
/-- MendBench$Mender.start(LMendBench$Text;)V -/
def jm_43 (Q : Nat) (a0 : Nat) (S : ev_St) : Option ((Unit) × ev_St) := ev_bd (jm_153 Q 270 a0 S) fun _ s1 => ev_b (ev_pI s1 269 9 0) fun s2 => ev_b (ev_pI s2 269 10 0) fun s3 => some ((), s3)
theorem jt_43 (d : Nat) (hd : 2 ≤ d) (Q : Nat) (a0 : Nat) (ha0 : a0 = 0 ∨ ev_isOb (a0 - 1) 10 = true) (S : ev_St) (x : Unit) (S' : ev_St) (hJ : jm_43 Q a0 S = some (x, S')) : ev_Ref d 43 [.ref 269, ev_nv a0] S (ev_eU x) S' (ev_PU x) := by
  obtain ⟨d, rfl⟩ : ∃ e, d = e + 1 := ⟨d - 1, by omega⟩
  refine ev_ref_of (P := ev_PU) (lv := [(0, .ref 269), (1, ev_nv a0)]) (by decide +kernel) (by (try simp only [ev_sum, ev_nv_cat]); first | done | rfl) (by (try simp only [lv_args, ev_nv_cat]); first | done | rfl) ?_ x S' hJ
  unfold jm_43
  refine ev_r_aload_n (pc := 0) (k := 0) (v := .ref 269) trivial (by decide +kernel) (by rfl) ?_
  refine ev_r_getC (pc := 1) (y := 14) (ci := 3) (f := 0) (fin := 1) (k' := 270) (by decide +kernel) (by decide +kernel) (by exact ev_ob_269) rfl rfl ?_
  refine ev_r_aload_n (pc := 4) (k := 1) (v := ev_nv a0) (ev_isR_nv _) (by decide +kernel) (by rfl) ?_
  refine ev_r_virt (pc := 5) (y := 43) (mi := 153) (na := 1) (k := 270) (as := [ev_nv a0]) (rest := []) (encc := ev_oU) (Q := ev_PU) (fun x S1 h => jt_153 d (by omega) Q 270 a0 ev_ob_270 (by exact ha0) S x S1 h) (by exact ev_ob_270) (by decide +kernel) (by decide +kernel) (by decide +kernel) (by decide +kernel) rfl (by (try simp only [ev_sum, ev_nv_cat]); first | done | rfl) ?_
  intro _ s1 _
  show ev_w _ _ _ _ _ [] _ _ _ _
  refine ev_r_aload_n (pc := 8) (k := 0) (v := .ref 269) trivial (by decide +kernel) (by rfl) ?_
  refine ev_r_iconst (pc := 9) (k := 0) (by decide +kernel) ?_
  refine ev_r_putI (pc := 10) (y := 47) (ci := 3) (f := 9) (by decide) (by decide +kernel) (by decide +kernel) (by exact ev_ob_269) rfl rfl ?_
  intro s2
  refine ev_r_aload_n (pc := 13) (k := 0) (v := .ref 269) trivial (by decide +kernel) (by rfl) ?_
  refine ev_r_iconst (pc := 14) (k := 0) (by decide +kernel) ?_
  refine ev_r_putI (pc := 15) (y := 51) (ci := 3) (f := 10) (by decide) (by decide +kernel) (by decide +kernel) (by exact ev_ob_269) rfl rfl ?_
  intro s3
  exact ev_r_return (pc := 18) (x := ()) trivial (by decide +kernel) (by decide +kernel) rfl
/-- MendBench$Search.prepare(LMendBench$Pattern;LMendBench$Text;)V -/
def jm_121 (Q : Nat) (a0 : Nat) (a1 : Nat) (S : ev_St) : Option ((Unit) × ev_St) := ev_b (ev_pR S 281 0 a0) fun s1 => ev_b (ev_pR s1 281 1 a1) fun s2 => ev_b (ev_pI s2 281 14 0) fun s3 => ev_b (ev_pI s3 281 10 0) fun s4 => some ((), s4)
theorem jt_121 (d : Nat) (hd : 1 ≤ d) (Q : Nat) (a0 : Nat) (a1 : Nat) (ha0 : a0 = 0 ∨ ev_isOb (a0 - 1) 5 = true) (ha1 : a1 = 0 ∨ ev_isOb (a1 - 1) 10 = true) (S : ev_St) (x : Unit) (S' : ev_St) (hJ : jm_121 Q a0 a1 S = some (x, S')) : ev_Ref d 121 [.ref 281, ev_nv a0, ev_nv a1] S (ev_eU x) S' (ev_PU x) := by
  obtain ⟨d, rfl⟩ : ∃ e, d = e + 1 := ⟨d - 1, by omega⟩
  refine ev_ref_of (P := ev_PU) (lv := [(0, .ref 281), (1, ev_nv a0), (2, ev_nv a1)]) (by decide +kernel) (by (try simp only [ev_sum, ev_nv_cat]); first | done | rfl) (by (try simp only [lv_args, ev_nv_cat]); first | done | rfl) ?_ x S' hJ
  unfold jm_121
  refine ev_r_aload_n (pc := 0) (k := 0) (v := .ref 281) trivial (by decide +kernel) (by rfl) ?_
  refine ev_r_aload_n (pc := 1) (k := 1) (v := ev_nv a0) (ev_isR_nv _) (by decide +kernel) (by rfl) ?_
  refine ev_r_putR (pc := 2) (y := 58) (ci := 8) (f := 0) (r := a0) (t := 5) (by exact ha0) (by decide +kernel) (by decide +kernel) (by exact ev_ob_281) rfl rfl (by cases a0 <;> rfl) ?_
  intro s1
  refine ev_r_aload_n (pc := 5) (k := 0) (v := .ref 281) trivial (by decide +kernel) (by rfl) ?_
  refine ev_r_aload_n (pc := 6) (k := 2) (v := ev_nv a1) (ev_isR_nv _) (by decide +kernel) (by rfl) ?_
  refine ev_r_putR (pc := 7) (y := 27) (ci := 8) (f := 1) (r := a1) (t := 10) (by exact ha1) (by decide +kernel) (by decide +kernel) (by exact ev_ob_281) rfl rfl (by cases a1 <;> rfl) ?_
  intro s2
  refine ev_r_aload_n (pc := 10) (k := 0) (v := .ref 281) trivial (by decide +kernel) (by rfl) ?_
  refine ev_r_iconst (pc := 11) (k := 0) (by decide +kernel) ?_
  refine ev_r_putI (pc := 12) (y := 67) (ci := 8) (f := 14) (by decide) (by decide +kernel) (by decide +kernel) (by exact ev_ob_281) rfl rfl ?_
  intro s3
  refine ev_r_aload_n (pc := 15) (k := 0) (v := .ref 281) trivial (by decide +kernel) (by rfl) ?_
  refine ev_r_iconst (pc := 16) (k := 0) (by decide +kernel) ?_
  refine ev_r_putI (pc := 17) (y := 39) (ci := 8) (f := 10) (by decide) (by decide +kernel) (by decide +kernel) (by exact ev_ob_281) rfl (ev_fit_bl (by decide : ev_bl 0)) ?_
  intro s4
  exact ev_r_return (pc := 20) (x := ()) trivial (by decide +kernel) (by decide +kernel) rfl
/-- MendBench$Search.restore(III)V -/
def jm_132 (Q : Nat) (a0 : Int) (a1 : Int) (a2 : Int) (S : ev_St) : Option ((Unit) × ev_St) := if a0 < 0 then (some ((), S)) else (ev_ck (a0 + 6) fun x2 => ev_b (ev_aln 283 : Int) fun x3 => if x3 < x2 then (some ((), S)) else (ev_b (ev_pI S 281 3 a1) fun s5 => ev_b (ev_pI s5 281 4 a2) fun s6 => ev_ck (a0 + 4) fun x7 => ev_if ((0 : Int) ≤ x7 ∧ x7 < (ev_aln 283 : Int)) (ev_b (s6.1 283 (Int.toNat x7)) fun x8 => ev_b (ev_pI s6 281 5 x8) fun s9 => ev_ck (a0 + 5) fun x10 => ev_if ((0 : Int) ≤ x10 ∧ x10 < (ev_aln 283 : Int)) (ev_b (s9.1 283 (Int.toNat x10)) fun x11 => ev_b (ev_pI s9 281 7 x11) fun s12 => some ((), s12)))))
theorem jt_132 (d : Nat) (hd : 1 ≤ d) (Q : Nat) (a0 : Int) (a1 : Int) (a2 : Int) (ha0 : ev_rng a0) (ha1 : ev_rng a1) (ha2 : ev_rng a2) (S : ev_St) (x : Unit) (S' : ev_St) (hJ : jm_132 Q a0 a1 a2 S = some (x, S')) : ev_Ref d 132 [.ref 281, .int (Int32.ofInt a0), .int (Int32.ofInt a1), .int (Int32.ofInt a2)] S (ev_eU x) S' (ev_PU x) := by
  obtain ⟨d, rfl⟩ : ∃ e, d = e + 1 := ⟨d - 1, by omega⟩
  refine ev_ref_of (P := ev_PU) (lv := [(0, .ref 281), (1, .int (Int32.ofInt a0)), (2, .int (Int32.ofInt a1)), (3, .int (Int32.ofInt a2))]) (by decide +kernel) (by (try simp only [ev_sum, ev_nv_cat]); first | done | rfl) (by (try simp only [lv_args, ev_nv_cat]); first | done | rfl) ?_ x S' hJ
  unfold jm_132
  refine ev_r_iload_n (pc := 0) (k := 1) (v := Int32.ofInt a0) (by decide +kernel) (by rfl) ?_
  refine ev_r_if (pc := 1) (q := .lt) (o := 49) (t := 50) (c := a0 < 0) (by decide +kernel) (ev_k_lt ha0 ev_rng0) (by decide +kernel) ?_ ?_
  · intro c1
    exact ev_r_return (pc := 50) (x := ()) trivial (by decide +kernel) (by decide +kernel) rfl
  · intro c1
    refine ev_r_iload_n (pc := 4) (k := 1) (v := Int32.ofInt a0) (by decide +kernel) (by rfl) ?_
    refine ev_r_bipush (pc := 5) (k := 6) (by decide +kernel) (by decide +kernel) ?_
    refine ev_r_iadd (pc := 7) (by decide +kernel) ?_
    intro x2 hx2
    refine ev_r_aload_n (pc := 8) (k := 0) (v := .ref 281) trivial (by decide +kernel) (by rfl) ?_
    refine ev_r_getC (pc := 9) (y := 18) (ci := 8) (f := 8) (fin := 1) (k' := 283) (by decide +kernel) (by decide +kernel) (by exact ev_ob_281) rfl rfl ?_
    refine ev_r_alen (pc := 12) (kd := 1) (ty := .int) (Or.inl rfl) (by decide +kernel) (by exact ev_ab_283) ?_
    intro x3 hx3
    refine ev_r_icmp (pc := 13) (q := .gt) (o := 37) (t := 50) (c := x3 < x2) (by decide +kernel) (ev_k_gt hx2 hx3) (by decide +kernel) ?_ ?_
    · intro c4
      exact ev_r_return (pc := 50) (x := ()) trivial (by decide +kernel) (by decide +kernel) rfl
    · intro c4
      refine ev_r_aload_n (pc := 16) (k := 0) (v := .ref 281) trivial (by decide +kernel) (by rfl) ?_
      refine ev_r_iload_n (pc := 17) (k := 2) (v := Int32.ofInt a1) (by decide +kernel) (by rfl) ?_
      refine ev_r_putI (pc := 18) (y := 70) (ci := 8) (f := 3) ha1 (by decide +kernel) (by decide +kernel) (by exact ev_ob_281) rfl rfl ?_
      intro s5
      refine ev_r_aload_n (pc := 21) (k := 0) (v := .ref 281) trivial (by decide +kernel) (by rfl) ?_
      refine ev_r_iload_n (pc := 22) (k := 3) (v := Int32.ofInt a2) (by decide +kernel) (by rfl) ?_
      refine ev_r_putI (pc := 23) (y := 73) (ci := 8) (f := 4) ha2 (by decide +kernel) (by decide +kernel) (by exact ev_ob_281) rfl rfl ?_
      intro s6
      refine ev_r_aload_n (pc := 26) (k := 0) (v := .ref 281) trivial (by decide +kernel) (by rfl) ?_
      refine ev_r_aload_n (pc := 27) (k := 0) (v := .ref 281) trivial (by decide +kernel) (by rfl) ?_
      refine ev_r_getC (pc := 28) (y := 18) (ci := 8) (f := 8) (fin := 1) (k' := 283) (by decide +kernel) (by decide +kernel) (by exact ev_ob_281) rfl rfl ?_
      refine ev_r_iload_n (pc := 31) (k := 1) (v := Int32.ofInt a0) (by decide +kernel) (by rfl) ?_
      refine ev_r_iconst (pc := 32) (k := 4) (by decide +kernel) ?_
      refine ev_r_iadd (pc := 33) (by decide +kernel) ?_
      intro x7 hx7
      refine ev_r_iald (pc := 34) hx7 (by decide +kernel) (by exact ev_ab_283) ?_
      intro x8 hx8
      refine ev_r_putI (pc := 35) (y := 76) (ci := 8) (f := 5) hx8 (by decide +kernel) (by decide +kernel) (by exact ev_ob_281) rfl rfl ?_
      intro s9
      refine ev_r_aload_n (pc := 38) (k := 0) (v := .ref 281) trivial (by decide +kernel) (by rfl) ?_
      refine ev_r_aload_n (pc := 39) (k := 0) (v := .ref 281) trivial (by decide +kernel) (by rfl) ?_
      refine ev_r_getC (pc := 40) (y := 18) (ci := 8) (f := 8) (fin := 1) (k' := 283) (by decide +kernel) (by decide +kernel) (by exact ev_ob_281) rfl rfl ?_
      refine ev_r_iload_n (pc := 43) (k := 1) (v := Int32.ofInt a0) (by decide +kernel) (by rfl) ?_
      refine ev_r_iconst (pc := 44) (k := 5) (by decide +kernel) ?_
      refine ev_r_iadd (pc := 45) (by decide +kernel) ?_
      intro x10 hx10
      refine ev_r_iald (pc := 46) hx10 (by decide +kernel) (by exact ev_ab_283) ?_
      intro x11 hx11
      refine ev_r_putI (pc := 47) (y := 79) (ci := 8) (f := 7) hx11 (by decide +kernel) (by decide +kernel) (by exact ev_ob_281) rfl rfl ?_
      intro s12
      exact ev_r_return (pc := 50) (x := ()) trivial (by decide +kernel) (by decide +kernel) rfl
def jb_135_4 (Q : Nat)   (K4 : Int → ev_St → Option ((Int) × ev_St)) (x2 : Int) (s6 : ev_St) : Option ((Int) × ev_St) := if x2 < 0 then (some ((-1), s6)) else (ev_ck (6 * x2) fun x8 => ev_ck (x8 + 6) fun x9 => ev_b (ev_aln 283 : Int) fun x10 => ev_jn (fun  (s14 : ev_St) => ev_ck (x2 + (-1)) fun x15 => K4 x15 s14) fun K37 => if x10 < x9 then (K37  s6) else (ev_if ((0 : Int) ≤ x8 ∧ x8 < (ev_aln 283 : Int)) (ev_b (s6.1 283 (Int.toNat x8)) fun x17 => if x17 ≠ 1 then (K37  s6) else (some (x2, s6)))))
def jl_135_4 (Q : Nat)   : Nat → Int → ev_St → Option ((Int) × ev_St)
  | 0 => fun _ _ => none
  | q + 1 => jb_135_4 Q   (jl_135_4 Q   q)
theorem jbt_135_4 (d : Nat) (hd : 1 ≤ d + 1) (Q : Nat)     (K4 : Int → ev_St → Option ((Int) × ev_St)) (hK4 : ∀ (x2 : Int) (hx2 : ev_rng x2), ∀ (s6 : ev_St) (w3 : List (Nat × Value)), ev_lk w3 0 = some (.ref 281) → ev_lk w3 2 = some (.int (Int32.ofInt x2)) → ev_w none (ev_Mof 135) d 4 w3 [] s6 (K4 x2 s6) ev_eI ev_rng) : ∀ (x2 : Int) (hx2 : ev_rng x2), ∀ (s6 : ev_St) (w3 : List (Nat × Value)), ev_lk w3 0 = some (.ref 281) → ev_lk w3 2 = some (.int (Int32.ofInt x2)) → ev_w none (ev_Mof 135) d 4 w3 [] s6 (jb_135_4 Q   K4 x2 s6) ev_eI ev_rng := by
  intro x2 hx2 s6 w3 e4 e5
  unfold jb_135_4
  refine ev_r_iload_n (pc := 4) (k := 2) (v := Int32.ofInt x2) (by decide +kernel) (by exact e5) ?_
  refine ev_r_if (pc := 5) (q := .lt) (o := 38) (t := 43) (c := x2 < 0) (by decide +kernel) (ev_k_lt hx2 ev_rng0) (by decide +kernel) ?_ ?_
  · intro c7
    refine ev_r_iconst (pc := 43) (k := -1) (by decide +kernel) ?_
    exact ev_r_ireturn (pc := 44) (x := (-1)) (v := Int32.ofInt ((-1))) (ty := .int) (by decide) (by decide +kernel) (by decide +kernel) rfl rfl
  · intro c7
    refine ev_r_bipush (pc := 8) (k := 6) (by decide +kernel) (by decide +kernel) ?_
    refine ev_r_iload_n (pc := 10) (k := 2) (v := Int32.ofInt x2) (by decide +kernel) (by exact e5) ?_
    refine ev_r_imul (pc := 11) (by decide +kernel) ?_
    intro x8 hx8
    refine ev_r_istore_n (pc := 12) (k := 3) (by decide +kernel) (by decide +kernel) rfl ?_
    refine ev_r_iload_n (pc := 13) (k := 3) (v := Int32.ofInt x8) (by decide +kernel) (by exact ev_lk_st1_self) ?_
    refine ev_r_bipush (pc := 14) (k := 6) (by decide +kernel) (by decide +kernel) ?_
    refine ev_r_iadd (pc := 16) (by decide +kernel) ?_
    intro x9 hx9
    refine ev_r_aload_n (pc := 17) (k := 0) (v := .ref 281) trivial (by decide +kernel) (by exact (ev_l1 e4 (by decide) (by decide))) ?_
    refine ev_r_getC (pc := 18) (y := 18) (ci := 8) (f := 8) (fin := 1) (k' := 283) (by decide +kernel) (by decide +kernel) (by exact ev_ob_281) rfl rfl ?_
    refine ev_r_alen (pc := 21) (kd := 1) (ty := .int) (Or.inl rfl) (by decide +kernel) (by exact ev_ab_283) ?_
    intro x10 hx10
    refine ev_r_jn (Q := fun K => ∀ (s14 : ev_St) (w11 : List (Nat × Value)), ev_lk w11 0 = some (.ref 281) → ev_lk w11 2 = some (.int (Int32.ofInt x2)) → ev_w none (ev_Mof 135) d 37 w11 [] s14 (K  s14) ev_eI ev_rng) ?_ ?_
    · intro  s14 w11 e12 e13
      refine ev_r_iinc (pc := 37) (k := 2) (c := -1) (x := x2) (by decide +kernel) (by decide +kernel) (by exact e13) (fun _ => rfl) ?_
      intro x15 hx15
      refine ev_r_goto (pc := 40) (o := (-36)) (t := 4) (by decide +kernel) (by decide +kernel) ?_
      exact hK4 x15 hx15 s14 _ (by exact (ev_l1 e12 (by decide) (by decide))) (by exact ev_lk_st1_self)
    · intro K37 hK37
      refine ev_r_icmp (pc := 22) (q := .gt) (o := 15) (t := 37) (c := x10 < x9) (by decide +kernel) (ev_k_gt hx9 hx10) (by decide +kernel) ?_ ?_
      · intro c16
        exact hK37  s6 _ (by exact (ev_l1 e4 (by decide) (by decide))) (by exact (ev_lk_st1 e5 (by decide) rfl))
      · intro c16
        refine ev_r_aload_n (pc := 25) (k := 0) (v := .ref 281) trivial (by decide +kernel) (by exact (ev_l1 e4 (by decide) (by decide))) ?_
        refine ev_r_getC (pc := 26) (y := 18) (ci := 8) (f := 8) (fin := 1) (k' := 283) (by decide +kernel) (by decide +kernel) (by exact ev_ob_281) rfl rfl ?_
        refine ev_r_iload_n (pc := 29) (k := 3) (v := Int32.ofInt x8) (by decide +kernel) (by exact ev_lk_st1_self) ?_
        refine ev_r_iald (pc := 30) hx8 (by decide +kernel) (by exact ev_ab_283) ?_
        intro x17 hx17
        refine ev_r_iconst (pc := 31) (k := 1) (by decide +kernel) ?_
        refine ev_r_icmp (pc := 32) (q := .ne) (o := 5) (t := 37) (c := x17 ≠ 1) (by decide +kernel) (ev_k_ne hx17 (by decide)) (by decide +kernel) ?_ ?_
        · intro c18
          exact hK37  s6 _ (by exact (ev_l1 e4 (by decide) (by decide))) (by exact (ev_lk_st1 e5 (by decide) rfl))
        · intro c18
          refine ev_r_iload_n (pc := 35) (k := 2) (v := Int32.ofInt x2) (by decide +kernel) (by exact (ev_lk_st1 e5 (by decide) rfl)) ?_
          exact ev_r_ireturn (pc := 36) (x := x2) (v := Int32.ofInt x2) (ty := .int) hx2 (by decide +kernel) (by decide +kernel) rfl rfl
theorem jlt_135_4 (d : Nat) (hd : 1 ≤ d + 1) (Q : Nat)     : ∀ q : Nat, ∀ (x2 : Int) (hx2 : ev_rng x2), ∀ (s6 : ev_St) (w3 : List (Nat × Value)), ev_lk w3 0 = some (.ref 281) → ev_lk w3 2 = some (.int (Int32.ofInt x2)) → ev_w none (ev_Mof 135) d 4 w3 [] s6 (jl_135_4 Q   q x2 s6) ev_eI ev_rng := by
  intro q
  induction q with
  | zero =>
    intro x2 hx2 s6 w3 e4 e5
    exact ev_w_none
  | succ q ih => exact jbt_135_4 d hd Q     _ ih
/-- MendBench$Search.wallBelow(I)I -/
def jm_135 (Q : Nat) (a0 : Int) (S : ev_St) : Option ((Int) × ev_St) := ev_ck (a0 - 1) fun x1 => jl_135_4 Q   Q x1 S
theorem jt_135 (d : Nat) (hd : 1 ≤ d) (Q : Nat) (a0 : Int) (ha0 : ev_rng a0) (S : ev_St) (x : Int) (S' : ev_St) (hJ : jm_135 Q a0 S = some (x, S')) : ev_Ref d 135 [.ref 281, .int (Int32.ofInt a0)] S (ev_eI x) S' (ev_rng x) := by
  obtain ⟨d, rfl⟩ : ∃ e, d = e + 1 := ⟨d - 1, by omega⟩
  refine ev_ref_of (P := ev_rng) (lv := [(0, .ref 281), (1, .int (Int32.ofInt a0))]) (by decide +kernel) (by (try simp only [ev_sum, ev_nv_cat]); first | done | rfl) (by (try simp only [lv_args, ev_nv_cat]); first | done | rfl) ?_ x S' hJ
  unfold jm_135
  refine ev_r_iload_n (pc := 0) (k := 1) (v := Int32.ofInt a0) (by decide +kernel) (by rfl) ?_
  refine ev_r_iconst (pc := 1) (k := 1) (by decide +kernel) ?_
  refine ev_r_isub (pc := 2) (by decide +kernel) ?_
  intro x1 hx1
  refine ev_r_istore_n (pc := 3) (k := 2) (by decide +kernel) (by decide +kernel) rfl ?_
  exact jlt_135_4 d hd Q     Q x1 hx1 S _ (by exact (ev_l1 (by rfl) (by decide) (by decide))) (by exact ev_lk_st1_self)
/-- MendBench$Search.takeStep()Z -/
def jm_123 (Q : Nat)  (S : ev_St) : Option ((Int) × ev_St) := ev_b (S.1 281 14) fun x1 => if x1 < 1000 then (ev_b (S.1 281 14) fun x3 => ev_ck (x3 + 1) fun x4 => ev_b (ev_pI S 281 14 x4) fun s5 => some (1, s5)) else (ev_b (ev_pI S 281 10 1) fun s6 => some (0, s6))
theorem jt_123 (d : Nat) (hd : 1 ≤ d) (Q : Nat)   (S : ev_St) (x : Int) (S' : ev_St) (hJ : jm_123 Q  S = some (x, S')) : ev_Ref d 123 [.ref 281] S (ev_eI x) S' (ev_bl x) := by
  obtain ⟨d, rfl⟩ : ∃ e, d = e + 1 := ⟨d - 1, by omega⟩
  refine ev_ref_of (P := ev_bl) (lv := [(0, .ref 281)]) (by decide +kernel) (by (try simp only [ev_sum, ev_nv_cat]); first | done | rfl) (by (try simp only [lv_args, ev_nv_cat]); first | done | rfl) ?_ x S' hJ
  unfold jm_123
  refine ev_r_aload_n (pc := 0) (k := 0) (v := .ref 281) trivial (by decide +kernel) (by rfl) ?_
  refine ev_r_getI (pc := 1) (y := 67) (ci := 8) (f := 14) (fin := 0) (by decide +kernel) (by decide +kernel) (by exact ev_ob_281) rfl ?_
  intro x1 hx1
  refine ev_r_sipush (pc := 4) (k := 1000) (by decide +kernel) (by decide +kernel) ?_
  refine ev_r_icmp (pc := 7) (q := .lt) (o := 10) (t := 17) (c := x1 < 1000) (by decide +kernel) (ev_k_lt hx1 (by decide)) (by decide +kernel) ?_ ?_
  · intro c2
    refine ev_r_aload_n (pc := 17) (k := 0) (v := .ref 281) trivial (by decide +kernel) (by rfl) ?_
    refine ev_r_dup (pc := 18) rfl (by decide +kernel) ?_
    refine ev_r_getI (pc := 19) (y := 67) (ci := 8) (f := 14) (fin := 0) (by decide +kernel) (by decide +kernel) (by exact ev_ob_281) rfl ?_
    intro x3 hx3
    refine ev_r_iconst (pc := 22) (k := 1) (by decide +kernel) ?_
    refine ev_r_iadd (pc := 23) (by decide +kernel) ?_
    intro x4 hx4
    refine ev_r_putI (pc := 24) (y := 67) (ci := 8) (f := 14) hx4 (by decide +kernel) (by decide +kernel) (by exact ev_ob_281) rfl rfl ?_
    intro s5
    refine ev_r_iconst (pc := 27) (k := 1) (by decide +kernel) ?_
    exact ev_r_ireturn (pc := 28) (x := 1) (v := Int32.ofInt 1) (ty := .boolean) (by decide : ev_bl 1) (by decide +kernel) (by decide +kernel) (ev_ret_bl (by decide : ev_bl 1)) rfl
  · intro c2
    refine ev_r_aload_n (pc := 10) (k := 0) (v := .ref 281) trivial (by decide +kernel) (by rfl) ?_
    refine ev_r_iconst (pc := 11) (k := 1) (by decide +kernel) ?_
    refine ev_r_putI (pc := 12) (y := 39) (ci := 8) (f := 10) (by decide) (by decide +kernel) (by decide +kernel) (by exact ev_ob_281) rfl (ev_fit_bl (by decide : ev_bl 1)) ?_
    intro s6
    refine ev_r_iconst (pc := 15) (k := 0) (by decide +kernel) ?_
    exact ev_r_ireturn (pc := 16) (x := 0) (v := Int32.ofInt 0) (ty := .boolean) (by decide : ev_bl 0) (by decide +kernel) (by decide +kernel) (ev_ret_bl (by decide : ev_bl 0)) rfl
/-- MendBench$Search.beginFurther(I)Z -/
def jm_133 (Q : Nat) (a0 : Int) (S : ev_St) : Option ((Int) × ev_St) := ev_ck (a0 + 1) fun x1 => ev_if ((0 : Int) ≤ x1 ∧ x1 < (ev_aln 283 : Int)) (ev_b (S.1 283 (Int.toNat x1)) fun x2 => ev_b (ev_ishr x2 2) fun x3 => ev_b (S.2.2.1 281 0) fun r4 => ev_if (r4 ≠ 0) (ev_bd (jm_59 Q ((r4 - 1)) x3 S) fun x7 s6 => ev_jn (fun (x8 : Int) (x9 : Int) (s14 : ev_St) => if x9 = 0 then (ev_b (s14.1 281 10) fun x16 => ev_if (ev_bl x16) (some (x16, s14))) else (ev_ck (a0 + 2) fun x18 => ev_if ((0 : Int) ≤ x18 ∧ x18 < (ev_aln 283 : Int)) (ev_b (s14.1 283 (Int.toNat x18)) fun x19 => if x19 ≤ 0 then (ev_b (s14.1 281 10) fun x21 => ev_if (ev_bl x21) (some (x21, s14))) else (ev_bd (jm_123 Q  s14) fun x24 s23 => if x24 ≠ 0 then (ev_ck (a0 + 2) fun x26 => ev_if ((0 : Int) ≤ x26 ∧ x26 < (ev_aln 283 : Int)) (ev_b (s23.1 283 (Int.toNat x26)) fun x27 => ev_ck (x27 - 1) fun x28 => ev_if ((0 : Int) ≤ x26 ∧ x26 < (ev_aln 283 : Int)) (ev_b (ev_pI s23 283 (Int.toNat x26) x28) fun s29 => ev_b (s29.1 281 9) fun x30 => ev_ck (x30 + 1) fun x31 => ev_b (ev_pI s29 281 9 x31) fun s32 => ev_ck (a0 + 2) fun x33 => ev_if ((0 : Int) ≤ x33 ∧ x33 < (ev_aln 283 : Int)) (ev_b (s32.1 283 (Int.toNat x33)) fun x34 => ev_ck (a0 + 3) fun x35 => ev_if ((0 : Int) ≤ x35 ∧ x35 < (ev_aln 283 : Int)) (ev_b (s32.1 283 (Int.toNat x35)) fun x36 => ev_bd (jm_132 Q a0 x34 x36 s32) fun _ s37 => ev_b (s37.2.2.1 281 0) fun r38 => ev_if (r38 ≠ 0) (ev_if ((0 : Int) ≤ x8 ∧ x8 < (ev_aln (((r38 - 1) + 6)) : Int)) (ev_b (s37.1 (((r38 - 1) + 6)) (Int.toNat x8)) fun x40 => ev_b (ev_pI s37 281 2 x40) fun s41 => some (1, s41)))))))) else (ev_b (s23.1 281 10) fun x42 => ev_if (ev_bl x42) (some (x42, s23))))))) fun K41 => ev_jn (fun (x44 : Int) (s49 : ev_St) => K41 x44 0 s49) fun K40 => if x7 = 0 then (K40 x3 s6) else (ev_b (s6.2.2.1 281 0) fun r51 => ev_if (r51 ≠ 0) (ev_if ((0 : Int) ≤ x3 ∧ x3 < (ev_aln (((r51 - 1) + 1)) : Int)) (ev_b (s6.1 (((r51 - 1) + 1)) (Int.toNat x3)) fun x53 => if x53 < 22 then (K40 x3 s6) else (K41 x3 1 s6))))))
theorem jt_133 (d : Nat) (hd : 2 ≤ d) (Q : Nat) (a0 : Int) (ha0 : ev_rng a0) (S : ev_St) (x : Int) (S' : ev_St) (hJ : jm_133 Q a0 S = some (x, S')) : ev_Ref d 133 [.ref 281, .int (Int32.ofInt a0)] S (ev_eI x) S' (ev_bl x) := by
  obtain ⟨d, rfl⟩ : ∃ e, d = e + 1 := ⟨d - 1, by omega⟩
  refine ev_ref_of (P := ev_bl) (lv := [(0, .ref 281), (1, .int (Int32.ofInt a0))]) (by decide +kernel) (by (try simp only [ev_sum, ev_nv_cat]); first | done | rfl) (by (try simp only [lv_args, ev_nv_cat]); first | done | rfl) ?_ x S' hJ
  unfold jm_133
  refine ev_r_aload_n (pc := 0) (k := 0) (v := .ref 281) trivial (by decide +kernel) (by rfl) ?_
  refine ev_r_getC (pc := 1) (y := 18) (ci := 8) (f := 8) (fin := 1) (k' := 283) (by decide +kernel) (by decide +kernel) (by exact ev_ob_281) rfl rfl ?_
  refine ev_r_iload_n (pc := 4) (k := 1) (v := Int32.ofInt a0) (by decide +kernel) (by rfl) ?_
  refine ev_r_iconst (pc := 5) (k := 1) (by decide +kernel) ?_
  refine ev_r_iadd (pc := 6) (by decide +kernel) ?_
  intro x1 hx1
  refine ev_r_iald (pc := 7) hx1 (by decide +kernel) (by exact ev_ab_283) ?_
  intro x2 hx2
  refine ev_r_iconst (pc := 8) (k := 2) (by decide +kernel) ?_
  refine ev_r_ishr (pc := 9) (by decide +kernel) ?_
  intro x3 hx3
  refine ev_r_istore_n (pc := 10) (k := 2) (by decide +kernel) (by decide +kernel) rfl ?_
  refine ev_r_aload_n (pc := 11) (k := 0) (v := .ref 281) trivial (by decide +kernel) (by exact (ev_l1 (by rfl) (by decide) (by decide))) ?_
  refine ev_r_getR (pc := 12) (y := 58) (ci := 8) (f := 0) (fin := 0) (t := 5) (by decide +kernel) (by decide +kernel) (by exact ev_ob_281) rfl rfl ?_
  intro r4 hr4
  have hr4 : r4 = 0 ∨ ev_isOb (r4 - 1) 5 = true := hr4
  refine ev_r_iload_n (pc := 15) (k := 2) (v := Int32.ofInt x3) (by decide +kernel) (by exact ev_lk_st1_self) ?_
  refine ev_r_chk ?_
  intro c5
  refine ev_r_dr (r := r4) (fun v => [.int (Int32.ofInt x3), v]) c5 ?_
  refine ev_r_virt (pc := 16) (y := 89) (mi := 59) (na := 1) (k := (r4 - 1)) (as := [.int (Int32.ofInt x3)]) (rest := []) (encc := ev_oI) (Q := ev_bl) (fun x S1 h => jt_59 d (by omega) Q ((r4 - 1)) x3 (hr4.resolve_left c5) hx3 S x S1 h) (by exact (hr4.resolve_left c5)) (by decide +kernel) (by decide +kernel) (by decide +kernel) (by decide +kernel) rfl (by (try simp only [ev_sum, ev_nv_cat]); first | done | rfl) ?_
  intro x7 s6 hx7
  replace hx7 := ev_bl_rng hx7
  show ev_w _ _ _ _ _ [.int (Int32.ofInt x7)] _ _ _ _
  refine ev_r_jn (Q := fun K => ∀ (x8 : Int) (hx8 : ev_rng x8), ∀ (x9 : Int) (hx9 : ev_rng x9), ∀ (s14 : ev_St) (w10 : List (Nat × Value)), ev_lk w10 0 = some (.ref 281) → ev_lk w10 1 = some (.int (Int32.ofInt a0)) → ev_lk w10 2 = some (.int (Int32.ofInt x8)) → ev_w none (ev_Mof 133) d 41 w10 [.int (Int32.ofInt x9)] s14 (K x8 x9 s14) ev_eI ev_bl) ?_ ?_
  · intro x8 hx8 x9 hx9 s14 w10 e11 e12 e13
    refine ev_r_istore_n (pc := 41) (k := 3) (by decide +kernel) (by decide +kernel) rfl ?_
    refine ev_r_iload_n (pc := 42) (k := 3) (v := Int32.ofInt x9) (by decide +kernel) (by exact ev_lk_st1_self) ?_
    refine ev_r_if (pc := 43) (q := .eq) (o := 21) (t := 64) (c := x9 = 0) (by decide +kernel) (ev_k_eq hx9 ev_rng0) (by decide +kernel) ?_ ?_
    · intro c15
      refine ev_r_aload_n (pc := 64) (k := 0) (v := .ref 281) trivial (by decide +kernel) (by exact (ev_l1 e11 (by decide) (by decide))) ?_
      refine ev_r_getI (pc := 65) (y := 39) (ci := 8) (f := 10) (fin := 0) (by decide +kernel) (by decide +kernel) (by exact ev_ob_281) rfl ?_
      intro x16 hx16
      refine ev_r_chk ?_
      intro c17
      exact ev_r_ireturn (pc := 68) (x := x16) (v := Int32.ofInt x16) (ty := .boolean) c17 (by decide +kernel) (by decide +kernel) (ev_ret_bl c17) rfl
    · intro c15
      refine ev_r_aload_n (pc := 46) (k := 0) (v := .ref 281) trivial (by decide +kernel) (by exact (ev_l1 e11 (by decide) (by decide))) ?_
      refine ev_r_getC (pc := 47) (y := 18) (ci := 8) (f := 8) (fin := 1) (k' := 283) (by decide +kernel) (by decide +kernel) (by exact ev_ob_281) rfl rfl ?_
      refine ev_r_iload_n (pc := 50) (k := 1) (v := Int32.ofInt a0) (by decide +kernel) (by exact (ev_l1 e12 (by decide) (by decide))) ?_
      refine ev_r_iconst (pc := 51) (k := 2) (by decide +kernel) ?_
      refine ev_r_iadd (pc := 52) (by decide +kernel) ?_
      intro x18 hx18
      refine ev_r_iald (pc := 53) hx18 (by decide +kernel) (by exact ev_ab_283) ?_
      intro x19 hx19
      refine ev_r_if (pc := 54) (q := .le) (o := 10) (t := 64) (c := x19 ≤ 0) (by decide +kernel) (ev_k_le hx19 ev_rng0) (by decide +kernel) ?_ ?_
      · intro c20
        refine ev_r_aload_n (pc := 64) (k := 0) (v := .ref 281) trivial (by decide +kernel) (by exact (ev_l1 e11 (by decide) (by decide))) ?_
        refine ev_r_getI (pc := 65) (y := 39) (ci := 8) (f := 10) (fin := 0) (by decide +kernel) (by decide +kernel) (by exact ev_ob_281) rfl ?_
        intro x21 hx21
        refine ev_r_chk ?_
        intro c22
        exact ev_r_ireturn (pc := 68) (x := x21) (v := Int32.ofInt x21) (ty := .boolean) c22 (by decide +kernel) (by decide +kernel) (ev_ret_bl c22) rfl
      · intro c20
        refine ev_r_aload_n (pc := 57) (k := 0) (v := .ref 281) trivial (by decide +kernel) (by exact (ev_l1 e11 (by decide) (by decide))) ?_
        refine ev_r_virt (pc := 58) (y := 135) (mi := 123) (na := 0) (k := 281) (as := []) (rest := []) (encc := ev_oI) (Q := ev_bl) (fun x S1 h => jt_123 d (by omega) Q   s14 x S1 h) (by exact ev_ob_281) (by decide +kernel) (by decide +kernel) (by decide +kernel) (by decide +kernel) rfl (by (try simp only [ev_sum, ev_nv_cat]); first | done | rfl) ?_
        intro x24 s23 hx24
        replace hx24 := ev_bl_rng hx24
        show ev_w _ _ _ _ _ [.int (Int32.ofInt x24)] _ _ _ _
        refine ev_r_if (pc := 61) (q := .ne) (o := 8) (t := 69) (c := x24 ≠ 0) (by decide +kernel) (ev_k_ne hx24 ev_rng0) (by decide +kernel) ?_ ?_
        · intro c25
          refine ev_r_aload_n (pc := 69) (k := 0) (v := .ref 281) trivial (by decide +kernel) (by exact (ev_l1 e11 (by decide) (by decide))) ?_
          refine ev_r_getC (pc := 70) (y := 18) (ci := 8) (f := 8) (fin := 1) (k' := 283) (by decide +kernel) (by decide +kernel) (by exact ev_ob_281) rfl rfl ?_
          refine ev_r_iload_n (pc := 73) (k := 1) (v := Int32.ofInt a0) (by decide +kernel) (by exact (ev_l1 e12 (by decide) (by decide))) ?_
          refine ev_r_iconst (pc := 74) (k := 2) (by decide +kernel) ?_
          refine ev_r_iadd (pc := 75) (by decide +kernel) ?_
          intro x26 hx26
          refine ev_r_dup2 (pc := 76) rfl rfl (by decide +kernel) ?_
          refine ev_r_iald (pc := 77) hx26 (by decide +kernel) (by exact ev_ab_283) ?_
          intro x27 hx27
          refine ev_r_iconst (pc := 78) (k := 1) (by decide +kernel) ?_
          refine ev_r_isub (pc := 79) (by decide +kernel) ?_
          intro x28 hx28
          refine ev_r_iast (pc := 80) hx28 hx26 (by decide +kernel) (by exact ev_ab_283) ?_
          intro s29
          refine ev_r_aload_n (pc := 81) (k := 0) (v := .ref 281) trivial (by decide +kernel) (by exact (ev_l1 e11 (by decide) (by decide))) ?_
          refine ev_r_dup (pc := 82) rfl (by decide +kernel) ?_
          refine ev_r_getI (pc := 83) (y := 82) (ci := 8) (f := 9) (fin := 0) (by decide +kernel) (by decide +kernel) (by exact ev_ob_281) rfl ?_
          intro x30 hx30
          refine ev_r_iconst (pc := 86) (k := 1) (by decide +kernel) ?_
          refine ev_r_iadd (pc := 87) (by decide +kernel) ?_
          intro x31 hx31
          refine ev_r_putI (pc := 88) (y := 82) (ci := 8) (f := 9) hx31 (by decide +kernel) (by decide +kernel) (by exact ev_ob_281) rfl rfl ?_
          intro s32
          refine ev_r_aload_n (pc := 91) (k := 0) (v := .ref 281) trivial (by decide +kernel) (by exact (ev_l1 e11 (by decide) (by decide))) ?_
          refine ev_r_iload_n (pc := 92) (k := 1) (v := Int32.ofInt a0) (by decide +kernel) (by exact (ev_l1 e12 (by decide) (by decide))) ?_
          refine ev_r_aload_n (pc := 93) (k := 0) (v := .ref 281) trivial (by decide +kernel) (by exact (ev_l1 e11 (by decide) (by decide))) ?_
          refine ev_r_getC (pc := 94) (y := 18) (ci := 8) (f := 8) (fin := 1) (k' := 283) (by decide +kernel) (by decide +kernel) (by exact ev_ob_281) rfl rfl ?_
          refine ev_r_iload_n (pc := 97) (k := 1) (v := Int32.ofInt a0) (by decide +kernel) (by exact (ev_l1 e12 (by decide) (by decide))) ?_
          refine ev_r_iconst (pc := 98) (k := 2) (by decide +kernel) ?_
          refine ev_r_iadd (pc := 99) (by decide +kernel) ?_
          intro x33 hx33
          refine ev_r_iald (pc := 100) hx33 (by decide +kernel) (by exact ev_ab_283) ?_
          intro x34 hx34
          refine ev_r_aload_n (pc := 101) (k := 0) (v := .ref 281) trivial (by decide +kernel) (by exact (ev_l1 e11 (by decide) (by decide))) ?_
          refine ev_r_getC (pc := 102) (y := 18) (ci := 8) (f := 8) (fin := 1) (k' := 283) (by decide +kernel) (by decide +kernel) (by exact ev_ob_281) rfl rfl ?_
          refine ev_r_iload_n (pc := 105) (k := 1) (v := Int32.ofInt a0) (by decide +kernel) (by exact (ev_l1 e12 (by decide) (by decide))) ?_
          refine ev_r_iconst (pc := 106) (k := 3) (by decide +kernel) ?_
          refine ev_r_iadd (pc := 107) (by decide +kernel) ?_
          intro x35 hx35
          refine ev_r_iald (pc := 108) hx35 (by decide +kernel) (by exact ev_ab_283) ?_
          intro x36 hx36
          refine ev_r_virt (pc := 109) (y := 119) (mi := 132) (na := 3) (k := 281) (as := [.int (Int32.ofInt a0), .int (Int32.ofInt x34), .int (Int32.ofInt x36)]) (rest := []) (encc := ev_oU) (Q := ev_PU) (fun x S1 h => jt_132 d (by omega) Q a0 x34 x36 ha0 hx34 hx36 s32 x S1 h) (by exact ev_ob_281) (by decide +kernel) (by decide +kernel) (by decide +kernel) (by decide +kernel) rfl (by (try simp only [ev_sum, ev_nv_cat]); first | done | rfl) ?_
          intro _ s37 _
          show ev_w _ _ _ _ _ [] _ _ _ _
          refine ev_r_aload_n (pc := 112) (k := 0) (v := .ref 281) trivial (by decide +kernel) (by exact (ev_l1 e11 (by decide) (by decide))) ?_
          refine ev_r_aload_n (pc := 113) (k := 0) (v := .ref 281) trivial (by decide +kernel) (by exact (ev_l1 e11 (by decide) (by decide))) ?_
          refine ev_r_getR (pc := 114) (y := 58) (ci := 8) (f := 0) (fin := 0) (t := 5) (by decide +kernel) (by decide +kernel) (by exact ev_ob_281) rfl rfl ?_
          intro r38 hr38
          have hr38 : r38 = 0 ∨ ev_isOb (r38 - 1) 5 = true := hr38
          refine ev_r_chk ?_
          intro c39
          refine ev_r_dr (r := r38) (fun v => [v, .ref 281]) c39 ?_
          refine ev_r_getC (pc := 117) (y := 93) (ci := 5) (f := 5) (fin := 2) (k' := ((r38 - 1) + 6)) (by decide +kernel) (by decide +kernel) (by exact (hr38.resolve_left c39)) rfl rfl ?_
          refine ev_r_iload_n (pc := 120) (k := 2) (v := Int32.ofInt x8) (by decide +kernel) (by exact (ev_lk_st1 e13 (by decide) rfl)) ?_
          refine ev_r_iald (pc := 121) hx8 (by decide +kernel) (by exact (ev_fo_5_5 (hr38.resolve_left c39))) ?_
          intro x40 hx40
          refine ev_r_putI (pc := 122) (y := 96) (ci := 8) (f := 2) hx40 (by decide +kernel) (by decide +kernel) (by exact ev_ob_281) rfl rfl ?_
          intro s41
          refine ev_r_iconst (pc := 125) (k := 1) (by decide +kernel) ?_
          exact ev_r_ireturn (pc := 126) (x := 1) (v := Int32.ofInt 1) (ty := .boolean) (by decide : ev_bl 1) (by decide +kernel) (by decide +kernel) (ev_ret_bl (by decide : ev_bl 1)) rfl
        · intro c25
          refine ev_r_aload_n (pc := 64) (k := 0) (v := .ref 281) trivial (by decide +kernel) (by exact (ev_l1 e11 (by decide) (by decide))) ?_
          refine ev_r_getI (pc := 65) (y := 39) (ci := 8) (f := 10) (fin := 0) (by decide +kernel) (by decide +kernel) (by exact ev_ob_281) rfl ?_
          intro x42 hx42
          refine ev_r_chk ?_
          intro c43
          exact ev_r_ireturn (pc := 68) (x := x42) (v := Int32.ofInt x42) (ty := .boolean) c43 (by decide +kernel) (by decide +kernel) (ev_ret_bl c43) rfl
  · intro K41 hK41
    refine ev_r_jn (Q := fun K => ∀ (x44 : Int) (hx44 : ev_rng x44), ∀ (s49 : ev_St) (w45 : List (Nat × Value)), ev_lk w45 0 = some (.ref 281) → ev_lk w45 1 = some (.int (Int32.ofInt a0)) → ev_lk w45 2 = some (.int (Int32.ofInt x44)) → ev_w none (ev_Mof 133) d 40 w45 [] s49 (K x44 s49) ev_eI ev_bl) ?_ ?_
    · intro x44 hx44 s49 w45 e46 e47 e48
      refine ev_r_iconst (pc := 40) (k := 0) (by decide +kernel) ?_
      exact hK41 x44 hx44 0 (by decide) s49 _ (by exact e46) (by exact e47) (by exact e48)
    · intro K40 hK40
      refine ev_r_if (pc := 19) (q := .eq) (o := 21) (t := 40) (c := x7 = 0) (by decide +kernel) (ev_k_eq hx7 ev_rng0) (by decide +kernel) ?_ ?_
      · intro c50
        exact hK40 x3 hx3 s6 _ (by exact (ev_l1 (by rfl) (by decide) (by decide))) (by exact (ev_lk_st1 (by rfl) (by decide) rfl)) (by exact ev_lk_st1_self)
      · intro c50
        refine ev_r_aload_n (pc := 22) (k := 0) (v := .ref 281) trivial (by decide +kernel) (by exact (ev_l1 (by rfl) (by decide) (by decide))) ?_
        refine ev_r_getR (pc := 23) (y := 58) (ci := 8) (f := 0) (fin := 0) (t := 5) (by decide +kernel) (by decide +kernel) (by exact ev_ob_281) rfl rfl ?_
        intro r51 hr51
        have hr51 : r51 = 0 ∨ ev_isOb (r51 - 1) 5 = true := hr51
        refine ev_r_chk ?_
        intro c52
        refine ev_r_dr (r := r51) (fun v => [v]) c52 ?_
        refine ev_r_getC (pc := 26) (y := 132) (ci := 5) (f := 0) (fin := 2) (k' := ((r51 - 1) + 1)) (by decide +kernel) (by decide +kernel) (by exact (hr51.resolve_left c52)) rfl rfl ?_
        refine ev_r_iload_n (pc := 29) (k := 2) (v := Int32.ofInt x3) (by decide +kernel) (by exact ev_lk_st1_self) ?_
        refine ev_r_iald (pc := 30) hx3 (by decide +kernel) (by exact (ev_fo_5_0 (hr51.resolve_left c52))) ?_
        intro x53 hx53
        refine ev_r_bipush (pc := 31) (k := 22) (by decide +kernel) (by decide +kernel) ?_
        refine ev_r_icmp (pc := 33) (q := .lt) (o := 7) (t := 40) (c := x53 < 22) (by decide +kernel) (ev_k_lt hx53 (by decide)) (by decide +kernel) ?_ ?_
        · intro c54
          exact hK40 x3 hx3 s6 _ (by exact (ev_l1 (by rfl) (by decide) (by decide))) (by exact (ev_lk_st1 (by rfl) (by decide) rfl)) (by exact ev_lk_st1_self)
        · intro c54
          refine ev_r_iconst (pc := 36) (k := 1) (by decide +kernel) ?_
          refine ev_r_goto (pc := 37) (o := 4) (t := 41) (by decide +kernel) (by decide +kernel) ?_
          exact hK41 x3 hx3 1 (by decide) s6 _ (by exact (ev_l1 (by rfl) (by decide) (by decide))) (by exact (ev_lk_st1 (by rfl) (by decide) rfl)) (by exact ev_lk_st1_self)
/-- MendBench$Search.isFrame(I)Z -/
def jm_126 (Q : Nat) (a0 : Int) (S : ev_St) : Option ((Int) × ev_St) := if a0 < 0 then (some (0, S)) else (ev_ck (a0 + 4) fun x2 => ev_b (S.1 281 7) fun x3 => if x3 < x2 then (some (0, S)) else (ev_b (S.1 281 7) fun x5 => ev_b (ev_aln 282 : Int) fun x6 => if x6 < x5 then (some (0, S)) else (some (1, S))))
theorem jt_126 (d : Nat) (hd : 1 ≤ d) (Q : Nat) (a0 : Int) (ha0 : ev_rng a0) (S : ev_St) (x : Int) (S' : ev_St) (hJ : jm_126 Q a0 S = some (x, S')) : ev_Ref d 126 [.ref 281, .int (Int32.ofInt a0)] S (ev_eI x) S' (ev_bl x) := by
  obtain ⟨d, rfl⟩ : ∃ e, d = e + 1 := ⟨d - 1, by omega⟩
  refine ev_ref_of (P := ev_bl) (lv := [(0, .ref 281), (1, .int (Int32.ofInt a0))]) (by decide +kernel) (by (try simp only [ev_sum, ev_nv_cat]); first | done | rfl) (by (try simp only [lv_args, ev_nv_cat]); first | done | rfl) ?_ x S' hJ
  unfold jm_126
  refine ev_r_iload_n (pc := 0) (k := 1) (v := Int32.ofInt a0) (by decide +kernel) (by rfl) ?_
  refine ev_r_if (pc := 1) (q := .lt) (o := 29) (t := 30) (c := a0 < 0) (by decide +kernel) (ev_k_lt ha0 ev_rng0) (by decide +kernel) ?_ ?_
  · intro c1
    refine ev_r_iconst (pc := 30) (k := 0) (by decide +kernel) ?_
    exact ev_r_ireturn (pc := 31) (x := 0) (v := Int32.ofInt 0) (ty := .boolean) (by decide : ev_bl 0) (by decide +kernel) (by decide +kernel) (ev_ret_bl (by decide : ev_bl 0)) rfl
  · intro c1
    refine ev_r_iload_n (pc := 4) (k := 1) (v := Int32.ofInt a0) (by decide +kernel) (by rfl) ?_
    refine ev_r_iconst (pc := 5) (k := 4) (by decide +kernel) ?_
    refine ev_r_iadd (pc := 6) (by decide +kernel) ?_
    intro x2 hx2
    refine ev_r_aload_n (pc := 7) (k := 0) (v := .ref 281) trivial (by decide +kernel) (by rfl) ?_
    refine ev_r_getI (pc := 8) (y := 79) (ci := 8) (f := 7) (fin := 0) (by decide +kernel) (by decide +kernel) (by exact ev_ob_281) rfl ?_
    intro x3 hx3
    refine ev_r_icmp (pc := 11) (q := .gt) (o := 19) (t := 30) (c := x3 < x2) (by decide +kernel) (ev_k_gt hx2 hx3) (by decide +kernel) ?_ ?_
    · intro c4
      refine ev_r_iconst (pc := 30) (k := 0) (by decide +kernel) ?_
      exact ev_r_ireturn (pc := 31) (x := 0) (v := Int32.ofInt 0) (ty := .boolean) (by decide : ev_bl 0) (by decide +kernel) (by decide +kernel) (ev_ret_bl (by decide : ev_bl 0)) rfl
    · intro c4
      refine ev_r_aload_n (pc := 14) (k := 0) (v := .ref 281) trivial (by decide +kernel) (by rfl) ?_
      refine ev_r_getI (pc := 15) (y := 79) (ci := 8) (f := 7) (fin := 0) (by decide +kernel) (by decide +kernel) (by exact ev_ob_281) rfl ?_
      intro x5 hx5
      refine ev_r_aload_n (pc := 18) (k := 0) (v := .ref 281) trivial (by decide +kernel) (by rfl) ?_
      refine ev_r_getC (pc := 19) (y := 14) (ci := 8) (f := 6) (fin := 1) (k' := 282) (by decide +kernel) (by decide +kernel) (by exact ev_ob_281) rfl rfl ?_
      refine ev_r_alen (pc := 22) (kd := 1) (ty := .int) (Or.inl rfl) (by decide +kernel) (by exact ev_ab_282) ?_
      intro x6 hx6
      refine ev_r_icmp (pc := 23) (q := .gt) (o := 7) (t := 30) (c := x6 < x5) (by decide +kernel) (ev_k_gt hx5 hx6) (by decide +kernel) ?_ ?_
      · intro c7
        refine ev_r_iconst (pc := 30) (k := 0) (by decide +kernel) ?_
        exact ev_r_ireturn (pc := 31) (x := 0) (v := Int32.ofInt 0) (ty := .boolean) (by decide : ev_bl 0) (by decide +kernel) (by decide +kernel) (ev_ret_bl (by decide : ev_bl 0)) rfl
      · intro c7
        refine ev_r_iconst (pc := 26) (k := 1) (by decide +kernel) ?_
        refine ev_r_goto (pc := 27) (o := 4) (t := 31) (by decide +kernel) (by decide +kernel) ?_
        exact ev_r_ireturn (pc := 31) (x := 1) (v := Int32.ofInt 1) (ty := .boolean) (by decide : ev_bl 1) (by decide +kernel) (by decide +kernel) (ev_ret_bl (by decide : ev_bl 1)) rfl
/-- MendBench$Search.passWall(I)Z -/
def jm_134 (Q : Nat) (a0 : Int) (S : ev_St) : Option ((Int) × ev_St) := ev_ck (a0 + 1) fun x1 => ev_if ((0 : Int) ≤ x1 ∧ x1 < (ev_aln 283 : Int)) (ev_b (S.1 283 (Int.toNat x1)) fun x2 => ev_b (ev_ishr x2 2) fun x3 => ev_ck (a0 + 3) fun x4 => ev_if ((0 : Int) ≤ x4 ∧ x4 < (ev_aln 283 : Int)) (ev_b (S.1 283 (Int.toNat x4)) fun x5 => ev_b (S.2.2.1 281 0) fun r6 => ev_if (r6 ≠ 0) (ev_bd (jm_59 Q ((r6 - 1)) x3 S) fun x9 s8 => ev_jn (fun (x10 : Int) (x11 : Int) (x12 : Int) (s18 : ev_St) => ev_jn (fun  (s24 : ev_St) => ev_bd (jm_126 Q x11 s24) fun x26 s25 => if x26 ≠ 0 then (ev_ck (x11 + 2) fun x28 => ev_if ((0 : Int) ≤ x28 ∧ x28 < (ev_aln 282 : Int)) (ev_b (s25.1 282 (Int.toNat x28)) fun x29 => ev_if ((0 : Int) ≤ x11 ∧ x11 < (ev_aln 282 : Int)) (ev_b (s25.1 282 (Int.toNat x11)) fun x30 => ev_bd (jm_132 Q a0 x29 x30 s25) fun _ s31 => ev_b (s31.2.2.1 281 0) fun r32 => ev_if (r32 ≠ 0) (ev_if ((0 : Int) ≤ x10 ∧ x10 < (ev_aln (((r32 - 1) + 7)) : Int)) (ev_b (s31.1 (((r32 - 1) + 7)) (Int.toNat x10)) fun x34 => ev_b (ev_pI s31 281 2 x34) fun s35 => some (1, s35)))))) else (some (0, s25))) fun K60 => if x12 = 21 then (K60  s18) else (if x12 ≠ 23 then (some (0, s18)) else (K60  s18))) fun K44 => if x9 = 0 then (K44 x3 x5 ((-1)) s8) else (ev_b (s8.2.2.1 281 0) fun r39 => ev_if (r39 ≠ 0) (ev_if ((0 : Int) ≤ x3 ∧ x3 < (ev_aln (((r39 - 1) + 1)) : Int)) (ev_b (s8.1 (((r39 - 1) + 1)) (Int.toNat x3)) fun x41 => K44 x3 x5 x41 s8))))))
theorem jt_134 (d : Nat) (hd : 2 ≤ d) (Q : Nat) (a0 : Int) (ha0 : ev_rng a0) (S : ev_St) (x : Int) (S' : ev_St) (hJ : jm_134 Q a0 S = some (x, S')) : ev_Ref d 134 [.ref 281, .int (Int32.ofInt a0)] S (ev_eI x) S' (ev_bl x) := by
  obtain ⟨d, rfl⟩ : ∃ e, d = e + 1 := ⟨d - 1, by omega⟩
  refine ev_ref_of (P := ev_bl) (lv := [(0, .ref 281), (1, .int (Int32.ofInt a0))]) (by decide +kernel) (by (try simp only [ev_sum, ev_nv_cat]); first | done | rfl) (by (try simp only [lv_args, ev_nv_cat]); first | done | rfl) ?_ x S' hJ
  unfold jm_134
  refine ev_r_aload_n (pc := 0) (k := 0) (v := .ref 281) trivial (by decide +kernel) (by rfl) ?_
  refine ev_r_getC (pc := 1) (y := 18) (ci := 8) (f := 8) (fin := 1) (k' := 283) (by decide +kernel) (by decide +kernel) (by exact ev_ob_281) rfl rfl ?_
  refine ev_r_iload_n (pc := 4) (k := 1) (v := Int32.ofInt a0) (by decide +kernel) (by rfl) ?_
  refine ev_r_iconst (pc := 5) (k := 1) (by decide +kernel) ?_
  refine ev_r_iadd (pc := 6) (by decide +kernel) ?_
  intro x1 hx1
  refine ev_r_iald (pc := 7) hx1 (by decide +kernel) (by exact ev_ab_283) ?_
  intro x2 hx2
  refine ev_r_iconst (pc := 8) (k := 2) (by decide +kernel) ?_
  refine ev_r_ishr (pc := 9) (by decide +kernel) ?_
  intro x3 hx3
  refine ev_r_istore_n (pc := 10) (k := 2) (by decide +kernel) (by decide +kernel) rfl ?_
  refine ev_r_aload_n (pc := 11) (k := 0) (v := .ref 281) trivial (by decide +kernel) (by exact (ev_l1 (by rfl) (by decide) (by decide))) ?_
  refine ev_r_getC (pc := 12) (y := 18) (ci := 8) (f := 8) (fin := 1) (k' := 283) (by decide +kernel) (by decide +kernel) (by exact ev_ob_281) rfl rfl ?_
  refine ev_r_iload_n (pc := 15) (k := 1) (v := Int32.ofInt a0) (by decide +kernel) (by exact (ev_lk_st1 (by rfl) (by decide) rfl)) ?_
  refine ev_r_iconst (pc := 16) (k := 3) (by decide +kernel) ?_
  refine ev_r_iadd (pc := 17) (by decide +kernel) ?_
  intro x4 hx4
  refine ev_r_iald (pc := 18) hx4 (by decide +kernel) (by exact ev_ab_283) ?_
  intro x5 hx5
  refine ev_r_istore_n (pc := 19) (k := 3) (by decide +kernel) (by decide +kernel) rfl ?_
  refine ev_r_aload_n (pc := 20) (k := 0) (v := .ref 281) trivial (by decide +kernel) (by exact (ev_l1 (ev_l1 (by rfl) (by decide) (by decide)) (by decide) (by decide))) ?_
  refine ev_r_getR (pc := 21) (y := 58) (ci := 8) (f := 0) (fin := 0) (t := 5) (by decide +kernel) (by decide +kernel) (by exact ev_ob_281) rfl rfl ?_
  intro r6 hr6
  have hr6 : r6 = 0 ∨ ev_isOb (r6 - 1) 5 = true := hr6
  refine ev_r_iload_n (pc := 24) (k := 2) (v := Int32.ofInt x3) (by decide +kernel) (by exact (ev_lk_st1 ev_lk_st1_self (by decide) rfl)) ?_
  refine ev_r_chk ?_
  intro c7
  refine ev_r_dr (r := r6) (fun v => [.int (Int32.ofInt x3), v]) c7 ?_
  refine ev_r_virt (pc := 25) (y := 89) (mi := 59) (na := 1) (k := (r6 - 1)) (as := [.int (Int32.ofInt x3)]) (rest := []) (encc := ev_oI) (Q := ev_bl) (fun x S1 h => jt_59 d (by omega) Q ((r6 - 1)) x3 (hr6.resolve_left c7) hx3 S x S1 h) (by exact (hr6.resolve_left c7)) (by decide +kernel) (by decide +kernel) (by decide +kernel) (by decide +kernel) rfl (by (try simp only [ev_sum, ev_nv_cat]); first | done | rfl) ?_
  intro x9 s8 hx9
  replace hx9 := ev_bl_rng hx9
  show ev_w _ _ _ _ _ [.int (Int32.ofInt x9)] _ _ _ _
  refine ev_r_jn (Q := fun K => ∀ (x10 : Int) (hx10 : ev_rng x10), ∀ (x11 : Int) (hx11 : ev_rng x11), ∀ (x12 : Int) (hx12 : ev_rng x12), ∀ (s18 : ev_St) (w13 : List (Nat × Value)), ev_lk w13 0 = some (.ref 281) → ev_lk w13 1 = some (.int (Int32.ofInt a0)) → ev_lk w13 2 = some (.int (Int32.ofInt x10)) → ev_lk w13 3 = some (.int (Int32.ofInt x11)) → ev_w none (ev_Mof 134) d 44 w13 [.int (Int32.ofInt x12)] s18 (K x10 x11 x12 s18) ev_eI ev_bl) ?_ ?_
  · intro x10 hx10 x11 hx11 x12 hx12 s18 w13 e14 e15 e16 e17
    refine ev_r_istore (pc := 44) (k := 4) (by decide +kernel) (by decide +kernel) rfl ?_
    refine ev_r_iload (pc := 46) (k := 4) (v := Int32.ofInt x12) (by decide +kernel) (by exact ev_lk_st1_self) ?_
    refine ev_r_bipush (pc := 48) (k := 21) (by decide +kernel) (by decide +kernel) ?_
    refine ev_r_jn (Q := fun K => ∀ (s24 : ev_St) (w19 : List (Nat × Value)), ev_lk w19 0 = some (.ref 281) → ev_lk w19 1 = some (.int (Int32.ofInt a0)) → ev_lk w19 2 = some (.int (Int32.ofInt x10)) → ev_lk w19 3 = some (.int (Int32.ofInt x11)) → ev_w none (ev_Mof 134) d 60 w19 [] s24 (K  s24) ev_eI ev_bl) ?_ ?_
    · intro  s24 w19 e20 e21 e22 e23
      refine ev_r_aload_n (pc := 60) (k := 0) (v := .ref 281) trivial (by decide +kernel) (by exact e20) ?_
      refine ev_r_iload_n (pc := 61) (k := 3) (v := Int32.ofInt x11) (by decide +kernel) (by exact e23) ?_
      refine ev_r_virt (pc := 62) (y := 112) (mi := 126) (na := 1) (k := 281) (as := [.int (Int32.ofInt x11)]) (rest := []) (encc := ev_oI) (Q := ev_bl) (fun x S1 h => jt_126 d (by omega) Q x11 hx11 s24 x S1 h) (by exact ev_ob_281) (by decide +kernel) (by decide +kernel) (by decide +kernel) (by decide +kernel) rfl (by (try simp only [ev_sum, ev_nv_cat]); first | done | rfl) ?_
      intro x26 s25 hx26
      replace hx26 := ev_bl_rng hx26
      show ev_w _ _ _ _ _ [.int (Int32.ofInt x26)] _ _ _ _
      refine ev_r_if (pc := 65) (q := .ne) (o := 5) (t := 70) (c := x26 ≠ 0) (by decide +kernel) (ev_k_ne hx26 ev_rng0) (by decide +kernel) ?_ ?_
      · intro c27
        refine ev_r_aload_n (pc := 70) (k := 0) (v := .ref 281) trivial (by decide +kernel) (by exact e20) ?_
        refine ev_r_iload_n (pc := 71) (k := 1) (v := Int32.ofInt a0) (by decide +kernel) (by exact e21) ?_
        refine ev_r_aload_n (pc := 72) (k := 0) (v := .ref 281) trivial (by decide +kernel) (by exact e20) ?_
        refine ev_r_getC (pc := 73) (y := 14) (ci := 8) (f := 6) (fin := 1) (k' := 282) (by decide +kernel) (by decide +kernel) (by exact ev_ob_281) rfl rfl ?_
        refine ev_r_iload_n (pc := 76) (k := 3) (v := Int32.ofInt x11) (by decide +kernel) (by exact e23) ?_
        refine ev_r_iconst (pc := 77) (k := 2) (by decide +kernel) ?_
        refine ev_r_iadd (pc := 78) (by decide +kernel) ?_
        intro x28 hx28
        refine ev_r_iald (pc := 79) hx28 (by decide +kernel) (by exact ev_ab_282) ?_
        intro x29 hx29
        refine ev_r_aload_n (pc := 80) (k := 0) (v := .ref 281) trivial (by decide +kernel) (by exact e20) ?_
        refine ev_r_getC (pc := 81) (y := 14) (ci := 8) (f := 6) (fin := 1) (k' := 282) (by decide +kernel) (by decide +kernel) (by exact ev_ob_281) rfl rfl ?_
        refine ev_r_iload_n (pc := 84) (k := 3) (v := Int32.ofInt x11) (by decide +kernel) (by exact e23) ?_
        refine ev_r_iald (pc := 85) hx11 (by decide +kernel) (by exact ev_ab_282) ?_
        intro x30 hx30
        refine ev_r_virt (pc := 86) (y := 119) (mi := 132) (na := 3) (k := 281) (as := [.int (Int32.ofInt a0), .int (Int32.ofInt x29), .int (Int32.ofInt x30)]) (rest := []) (encc := ev_oU) (Q := ev_PU) (fun x S1 h => jt_132 d (by omega) Q a0 x29 x30 ha0 hx29 hx30 s25 x S1 h) (by exact ev_ob_281) (by decide +kernel) (by decide +kernel) (by decide +kernel) (by decide +kernel) rfl (by (try simp only [ev_sum, ev_nv_cat]); first | done | rfl) ?_
        intro _ s31 _
        show ev_w _ _ _ _ _ [] _ _ _ _
        refine ev_r_aload_n (pc := 89) (k := 0) (v := .ref 281) trivial (by decide +kernel) (by exact e20) ?_
        refine ev_r_aload_n (pc := 90) (k := 0) (v := .ref 281) trivial (by decide +kernel) (by exact e20) ?_
        refine ev_r_getR (pc := 91) (y := 58) (ci := 8) (f := 0) (fin := 0) (t := 5) (by decide +kernel) (by decide +kernel) (by exact ev_ob_281) rfl rfl ?_
        intro r32 hr32
        have hr32 : r32 = 0 ∨ ev_isOb (r32 - 1) 5 = true := hr32
        refine ev_r_chk ?_
        intro c33
        refine ev_r_dr (r := r32) (fun v => [v, .ref 281]) c33 ?_
        refine ev_r_getC (pc := 94) (y := 139) (ci := 5) (f := 6) (fin := 2) (k' := ((r32 - 1) + 7)) (by decide +kernel) (by decide +kernel) (by exact (hr32.resolve_left c33)) rfl rfl ?_
        refine ev_r_iload_n (pc := 97) (k := 2) (v := Int32.ofInt x10) (by decide +kernel) (by exact e22) ?_
        refine ev_r_iald (pc := 98) hx10 (by decide +kernel) (by exact (ev_fo_5_6 (hr32.resolve_left c33))) ?_
        intro x34 hx34
        refine ev_r_putI (pc := 99) (y := 96) (ci := 8) (f := 2) hx34 (by decide +kernel) (by decide +kernel) (by exact ev_ob_281) rfl rfl ?_
        intro s35
        refine ev_r_iconst (pc := 102) (k := 1) (by decide +kernel) ?_
        exact ev_r_ireturn (pc := 103) (x := 1) (v := Int32.ofInt 1) (ty := .boolean) (by decide : ev_bl 1) (by decide +kernel) (by decide +kernel) (ev_ret_bl (by decide : ev_bl 1)) rfl
      · intro c27
        refine ev_r_iconst (pc := 68) (k := 0) (by decide +kernel) ?_
        exact ev_r_ireturn (pc := 69) (x := 0) (v := Int32.ofInt 0) (ty := .boolean) (by decide : ev_bl 0) (by decide +kernel) (by decide +kernel) (ev_ret_bl (by decide : ev_bl 0)) rfl
    · intro K60 hK60
      refine ev_r_icmp (pc := 50) (q := .eq) (o := 10) (t := 60) (c := x12 = 21) (by decide +kernel) (ev_k_eq hx12 (by decide)) (by decide +kernel) ?_ ?_
      · intro c36
        exact hK60  s18 _ (by exact (ev_l1 e14 (by decide) (by decide))) (by exact (ev_l1 e15 (by decide) (by decide))) (by exact (ev_l1 e16 (by decide) (by decide))) (by exact (ev_lk_st1 e17 (by decide) rfl))
      · intro c36
        refine ev_r_iload (pc := 53) (k := 4) (v := Int32.ofInt x12) (by decide +kernel) (by exact ev_lk_st1_self) ?_
        refine ev_r_bipush (pc := 55) (k := 23) (by decide +kernel) (by decide +kernel) ?_
        refine ev_r_icmp (pc := 57) (q := .ne) (o := 11) (t := 68) (c := x12 ≠ 23) (by decide +kernel) (ev_k_ne hx12 (by decide)) (by decide +kernel) ?_ ?_
        · intro c37
          refine ev_r_iconst (pc := 68) (k := 0) (by decide +kernel) ?_
          exact ev_r_ireturn (pc := 69) (x := 0) (v := Int32.ofInt 0) (ty := .boolean) (by decide : ev_bl 0) (by decide +kernel) (by decide +kernel) (ev_ret_bl (by decide : ev_bl 0)) rfl
        · intro c37
          exact hK60  s18 _ (by exact (ev_l1 e14 (by decide) (by decide))) (by exact (ev_l1 e15 (by decide) (by decide))) (by exact (ev_l1 e16 (by decide) (by decide))) (by exact (ev_lk_st1 e17 (by decide) rfl))
  · intro K44 hK44
    refine ev_r_if (pc := 28) (q := .eq) (o := 15) (t := 43) (c := x9 = 0) (by decide +kernel) (ev_k_eq hx9 ev_rng0) (by decide +kernel) ?_ ?_
    · intro c38
      refine ev_r_iconst (pc := 43) (k := -1) (by decide +kernel) ?_
      exact hK44 x3 hx3 x5 hx5 ((-1)) (by decide) s8 _ (by exact (ev_l1 (ev_l1 (by rfl) (by decide) (by decide)) (by decide) (by decide))) (by exact (ev_l1 (ev_lk_st1 (by rfl) (by decide) rfl) (by decide) (by decide))) (by exact (ev_lk_st1 ev_lk_st1_self (by decide) rfl)) (by exact ev_lk_st1_self)
    · intro c38
      refine ev_r_aload_n (pc := 31) (k := 0) (v := .ref 281) trivial (by decide +kernel) (by exact (ev_l1 (ev_l1 (by rfl) (by decide) (by decide)) (by decide) (by decide))) ?_
      refine ev_r_getR (pc := 32) (y := 58) (ci := 8) (f := 0) (fin := 0) (t := 5) (by decide +kernel) (by decide +kernel) (by exact ev_ob_281) rfl rfl ?_
      intro r39 hr39
      have hr39 : r39 = 0 ∨ ev_isOb (r39 - 1) 5 = true := hr39
      refine ev_r_chk ?_
      intro c40
      refine ev_r_dr (r := r39) (fun v => [v]) c40 ?_
      refine ev_r_getC (pc := 35) (y := 132) (ci := 5) (f := 0) (fin := 2) (k' := ((r39 - 1) + 1)) (by decide +kernel) (by decide +kernel) (by exact (hr39.resolve_left c40)) rfl rfl ?_
      refine ev_r_iload_n (pc := 38) (k := 2) (v := Int32.ofInt x3) (by decide +kernel) (by exact (ev_lk_st1 ev_lk_st1_self (by decide) rfl)) ?_
      refine ev_r_iald (pc := 39) hx3 (by decide +kernel) (by exact (ev_fo_5_0 (hr39.resolve_left c40))) ?_
      intro x41 hx41
      refine ev_r_goto (pc := 40) (o := 4) (t := 44) (by decide +kernel) (by decide +kernel) ?_
      exact hK44 x3 hx3 x5 hx5 x41 hx41 s8 _ (by exact (ev_l1 (ev_l1 (by rfl) (by decide) (by decide)) (by decide) (by decide))) (by exact (ev_l1 (ev_lk_st1 (by rfl) (by decide) rfl) (by decide) (by decide))) (by exact (ev_lk_st1 ev_lk_st1_self (by decide) rfl)) (by exact ev_lk_st1_self)
def jb_131_2 (Q : Nat)   (K2 : Int → ev_St → Option ((Int) × ev_St)) (x1 : Int) (s5 : ev_St) : Option ((Int) × ev_St) := if 100000000 ≤ x1 then (some (2, s5)) else (ev_b (s5.1 281 9) fun x7 => if x7 ≤ 0 then (some (2, s5)) else (ev_b (s5.1 281 9) fun x9 => ev_ck (x9 - 1) fun x10 => ev_b (ev_pI s5 281 9 x10) fun s11 => ev_b (s11.1 281 9) fun x12 => ev_ck (6 * x12) fun x13 => if x13 < 0 then (some (2, s11)) else (ev_ck (x13 + 6) fun x15 => ev_b (ev_aln 283 : Int) fun x16 => if x15 ≤ x16 then (ev_if ((0 : Int) ≤ x13 ∧ x13 < (ev_aln 283 : Int)) (ev_b (s11.1 283 (Int.toNat x13)) fun x18 => if x18 ≠ 0 then (ev_jn (fun (x20 : Int) (s26 : ev_St) => ev_jn (fun  (s29 : ev_St) => ev_b (s29.1 281 10) fun x30 => if x30 = 0 then (some (0, s29)) else (some (2, s29))) fun K173 => ev_jn (fun  (s36 : ev_St) => ev_bd (jm_134 Q x20 s36) fun x38 s37 => if x38 = 0 then (ev_ck (x1 + 1) fun x40 => K2 x40 s37) else (K173  s37)) fun K165 => if x18 ≠ 1 then (K165  s26) else (ev_bd (jm_133 Q x20 s26) fun x43 s42 => if x43 ≠ 0 then (K173  s42) else (K165  s42))) fun K152 => if x18 = 1 then (K152 x13 s11) else (ev_b (s11.1 281 9) fun x46 => ev_bd (jm_135 Q x46 s11) fun x48 s47 => ev_b (ev_pI s47 281 9 x48) fun s49 => ev_b (s49.1 281 9) fun x50 => if 0 ≤ x50 then (ev_b (s49.1 281 9) fun x52 => ev_ck (6 * x52) fun x53 => K152 x53 s49) else (ev_ck (x13 + 2) fun x54 => ev_if ((0 : Int) ≤ x54 ∧ x54 < (ev_aln 283 : Int)) (ev_b (s49.1 283 (Int.toNat x54)) fun x55 => ev_b (ev_pI s49 281 13 x55) fun s56 => if x18 ≠ 2 then (some (4, s56)) else (some (3, s56)))))) else (ev_ck (x13 + 1) fun x58 => ev_if ((0 : Int) ≤ x58 ∧ x58 < (ev_aln 283 : Int)) (ev_b (s11.1 283 (Int.toNat x58)) fun x59 => ev_b (ev_pI s11 281 2 x59) fun s60 => ev_ck (x13 + 2) fun x61 => ev_if ((0 : Int) ≤ x61 ∧ x61 < (ev_aln 283 : Int)) (ev_b (s60.1 283 (Int.toNat x61)) fun x62 => ev_ck (x13 + 3) fun x63 => ev_if ((0 : Int) ≤ x63 ∧ x63 < (ev_aln 283 : Int)) (ev_b (s60.1 283 (Int.toNat x63)) fun x64 => ev_bd (jm_132 Q x13 x62 x64 s60) fun _ s65 => some (0, s65))))))) else (some (2, s11)))))
def jl_131_2 (Q : Nat)   : Nat → Int → ev_St → Option ((Int) × ev_St)
  | 0 => fun _ _ => none
  | q + 1 => jb_131_2 Q   (jl_131_2 Q   q)
theorem jbt_131_2 (d : Nat) (hd : 3 ≤ d + 1) (Q : Nat)     (K2 : Int → ev_St → Option ((Int) × ev_St)) (hK2 : ∀ (x1 : Int) (hx1 : ev_rng x1), ∀ (s5 : ev_St) (w2 : List (Nat × Value)), ev_lk w2 0 = some (.ref 281) → ev_lk w2 1 = some (.int (Int32.ofInt x1)) → ev_w none (ev_Mof 131) d 2 w2 [] s5 (K2 x1 s5) ev_eI ev_rng) : ∀ (x1 : Int) (hx1 : ev_rng x1), ∀ (s5 : ev_St) (w2 : List (Nat × Value)), ev_lk w2 0 = some (.ref 281) → ev_lk w2 1 = some (.int (Int32.ofInt x1)) → ev_w none (ev_Mof 131) d 2 w2 [] s5 (jb_131_2 Q   K2 x1 s5) ev_eI ev_rng := by
  intro x1 hx1 s5 w2 e3 e4
  unfold jb_131_2
  refine ev_r_iload_n (pc := 2) (k := 1) (v := Int32.ofInt x1) (by decide +kernel) (by exact e4) ?_
  refine ev_r_ldc (pc := 3) (y := 99) (k := 100000000) (by decide +kernel) (by decide +kernel) ?_
  refine ev_r_icmp (pc := 5) (q := .ge) (o := 187) (t := 192) (c := 100000000 ≤ x1) (by decide +kernel) (ev_k_ge hx1 (by decide)) (by decide +kernel) ?_ ?_
  · intro c6
    refine ev_r_iconst (pc := 192) (k := 2) (by decide +kernel) ?_
    exact ev_r_ireturn (pc := 193) (x := 2) (v := Int32.ofInt 2) (ty := .int) (by decide) (by decide +kernel) (by decide +kernel) rfl rfl
  · intro c6
    refine ev_r_aload_n (pc := 8) (k := 0) (v := .ref 281) trivial (by decide +kernel) (by exact e3) ?_
    refine ev_r_getI (pc := 9) (y := 82) (ci := 8) (f := 9) (fin := 0) (by decide +kernel) (by decide +kernel) (by exact ev_ob_281) rfl ?_
    intro x7 hx7
    refine ev_r_if (pc := 12) (q := .le) (o := 180) (t := 192) (c := x7 ≤ 0) (by decide +kernel) (ev_k_le hx7 ev_rng0) (by decide +kernel) ?_ ?_
    · intro c8
      refine ev_r_iconst (pc := 192) (k := 2) (by decide +kernel) ?_
      exact ev_r_ireturn (pc := 193) (x := 2) (v := Int32.ofInt 2) (ty := .int) (by decide) (by decide +kernel) (by decide +kernel) rfl rfl
    · intro c8
      refine ev_r_aload_n (pc := 15) (k := 0) (v := .ref 281) trivial (by decide +kernel) (by exact e3) ?_
      refine ev_r_dup (pc := 16) rfl (by decide +kernel) ?_
      refine ev_r_getI (pc := 17) (y := 82) (ci := 8) (f := 9) (fin := 0) (by decide +kernel) (by decide +kernel) (by exact ev_ob_281) rfl ?_
      intro x9 hx9
      refine ev_r_iconst (pc := 20) (k := 1) (by decide +kernel) ?_
      refine ev_r_isub (pc := 21) (by decide +kernel) ?_
      intro x10 hx10
      refine ev_r_putI (pc := 22) (y := 82) (ci := 8) (f := 9) hx10 (by decide +kernel) (by decide +kernel) (by exact ev_ob_281) rfl rfl ?_
      intro s11
      refine ev_r_bipush (pc := 25) (k := 6) (by decide +kernel) (by decide +kernel) ?_
      refine ev_r_aload_n (pc := 27) (k := 0) (v := .ref 281) trivial (by decide +kernel) (by exact e3) ?_
      refine ev_r_getI (pc := 28) (y := 82) (ci := 8) (f := 9) (fin := 0) (by decide +kernel) (by decide +kernel) (by exact ev_ob_281) rfl ?_
      intro x12 hx12
      refine ev_r_imul (pc := 31) (by decide +kernel) ?_
      intro x13 hx13
      refine ev_r_istore_n (pc := 32) (k := 2) (by decide +kernel) (by decide +kernel) rfl ?_
      refine ev_r_iload_n (pc := 33) (k := 2) (v := Int32.ofInt x13) (by decide +kernel) (by exact ev_lk_st1_self) ?_
      refine ev_r_if (pc := 34) (q := .lt) (o := 15) (t := 49) (c := x13 < 0) (by decide +kernel) (ev_k_lt hx13 ev_rng0) (by decide +kernel) ?_ ?_
      · intro c14
        refine ev_r_iconst (pc := 49) (k := 2) (by decide +kernel) ?_
        exact ev_r_ireturn (pc := 50) (x := 2) (v := Int32.ofInt 2) (ty := .int) (by decide) (by decide +kernel) (by decide +kernel) rfl rfl
      · intro c14
        refine ev_r_iload_n (pc := 37) (k := 2) (v := Int32.ofInt x13) (by decide +kernel) (by exact ev_lk_st1_self) ?_
        refine ev_r_bipush (pc := 38) (k := 6) (by decide +kernel) (by decide +kernel) ?_
        refine ev_r_iadd (pc := 40) (by decide +kernel) ?_
        intro x15 hx15
        refine ev_r_aload_n (pc := 41) (k := 0) (v := .ref 281) trivial (by decide +kernel) (by exact (ev_l1 e3 (by decide) (by decide))) ?_
        refine ev_r_getC (pc := 42) (y := 18) (ci := 8) (f := 8) (fin := 1) (k' := 283) (by decide +kernel) (by decide +kernel) (by exact ev_ob_281) rfl rfl ?_
        refine ev_r_alen (pc := 45) (kd := 1) (ty := .int) (Or.inl rfl) (by decide +kernel) (by exact ev_ab_283) ?_
        intro x16 hx16
        refine ev_r_icmp (pc := 46) (q := .le) (o := 5) (t := 51) (c := x15 ≤ x16) (by decide +kernel) (ev_k_le hx15 hx16) (by decide +kernel) ?_ ?_
        · intro c17
          refine ev_r_aload_n (pc := 51) (k := 0) (v := .ref 281) trivial (by decide +kernel) (by exact (ev_l1 e3 (by decide) (by decide))) ?_
          refine ev_r_getC (pc := 52) (y := 18) (ci := 8) (f := 8) (fin := 1) (k' := 283) (by decide +kernel) (by decide +kernel) (by exact ev_ob_281) rfl rfl ?_
          refine ev_r_iload_n (pc := 55) (k := 2) (v := Int32.ofInt x13) (by decide +kernel) (by exact ev_lk_st1_self) ?_
          refine ev_r_iald (pc := 56) hx13 (by decide +kernel) (by exact ev_ab_283) ?_
          intro x18 hx18
          refine ev_r_istore_n (pc := 57) (k := 3) (by decide +kernel) (by decide +kernel) rfl ?_
          refine ev_r_iload_n (pc := 58) (k := 3) (v := Int32.ofInt x18) (by decide +kernel) (by exact ev_lk_st1_self) ?_
          refine ev_r_if (pc := 59) (q := .ne) (o := 38) (t := 97) (c := x18 ≠ 0) (by decide +kernel) (ev_k_ne hx18 ev_rng0) (by decide +kernel) ?_ ?_
          · intro c19
            refine ev_r_iload_n (pc := 97) (k := 3) (v := Int32.ofInt x18) (by decide +kernel) (by exact ev_lk_st1_self) ?_
            refine ev_r_iconst (pc := 98) (k := 1) (by decide +kernel) ?_
            refine ev_r_jn (Q := fun K => ∀ (x20 : Int) (hx20 : ev_rng x20), ∀ (s26 : ev_St) (w21 : List (Nat × Value)), ev_lk w21 0 = some (.ref 281) → ev_lk w21 1 = some (.int (Int32.ofInt x1)) → ev_lk w21 2 = some (.int (Int32.ofInt x20)) → ev_lk w21 3 = some (.int (Int32.ofInt x18)) → ev_w none (ev_Mof 131) d 152 w21 [] s26 (K x20 s26) ev_eI ev_rng) ?_ ?_
            · intro x20 hx20 s26 w21 e22 e23 e24 e25
              refine ev_r_iload_n (pc := 152) (k := 3) (v := Int32.ofInt x18) (by decide +kernel) (by exact e25) ?_
              refine ev_r_iconst (pc := 153) (k := 1) (by decide +kernel) ?_
              refine ev_r_jn (Q := fun K => ∀ (s29 : ev_St) (w27 : List (Nat × Value)), ev_lk w27 0 = some (.ref 281) → ev_w none (ev_Mof 131) d 173 w27 [] s29 (K  s29) ev_eI ev_rng) ?_ ?_
              · intro  s29 w27 e28
                refine ev_r_aload_n (pc := 173) (k := 0) (v := .ref 281) trivial (by decide +kernel) (by exact e28) ?_
                refine ev_r_getI (pc := 174) (y := 39) (ci := 8) (f := 10) (fin := 0) (by decide +kernel) (by decide +kernel) (by exact ev_ob_281) rfl ?_
                intro x30 hx30
                refine ev_r_if (pc := 177) (q := .eq) (o := 7) (t := 184) (c := x30 = 0) (by decide +kernel) (ev_k_eq hx30 ev_rng0) (by decide +kernel) ?_ ?_
                · intro c31
                  refine ev_r_iconst (pc := 184) (k := 0) (by decide +kernel) ?_
                  exact ev_r_ireturn (pc := 185) (x := 0) (v := Int32.ofInt 0) (ty := .int) (by decide) (by decide +kernel) (by decide +kernel) rfl rfl
                · intro c31
                  refine ev_r_iconst (pc := 180) (k := 2) (by decide +kernel) ?_
                  refine ev_r_goto (pc := 181) (o := 4) (t := 185) (by decide +kernel) (by decide +kernel) ?_
                  exact ev_r_ireturn (pc := 185) (x := 2) (v := Int32.ofInt 2) (ty := .int) (by decide) (by decide +kernel) (by decide +kernel) rfl rfl
              · intro K173 hK173
                refine ev_r_jn (Q := fun K => ∀ (s36 : ev_St) (w32 : List (Nat × Value)), ev_lk w32 0 = some (.ref 281) → ev_lk w32 1 = some (.int (Int32.ofInt x1)) → ev_lk w32 2 = some (.int (Int32.ofInt x20)) → ev_w none (ev_Mof 131) d 165 w32 [] s36 (K  s36) ev_eI ev_rng) ?_ ?_
                · intro  s36 w32 e33 e34 e35
                  refine ev_r_aload_n (pc := 165) (k := 0) (v := .ref 281) trivial (by decide +kernel) (by exact e33) ?_
                  refine ev_r_iload_n (pc := 166) (k := 2) (v := Int32.ofInt x20) (by decide +kernel) (by exact e35) ?_
                  refine ev_r_virt (pc := 167) (y := 129) (mi := 134) (na := 1) (k := 281) (as := [.int (Int32.ofInt x20)]) (rest := []) (encc := ev_oI) (Q := ev_bl) (fun x S1 h => jt_134 d (by omega) Q x20 hx20 s36 x S1 h) (by exact ev_ob_281) (by decide +kernel) (by decide +kernel) (by decide +kernel) (by decide +kernel) rfl (by (try simp only [ev_sum, ev_nv_cat]); first | done | rfl) ?_
                  intro x38 s37 hx38
                  replace hx38 := ev_bl_rng hx38
                  show ev_w _ _ _ _ _ [.int (Int32.ofInt x38)] _ _ _ _
                  refine ev_r_if (pc := 170) (q := .eq) (o := 16) (t := 186) (c := x38 = 0) (by decide +kernel) (ev_k_eq hx38 ev_rng0) (by decide +kernel) ?_ ?_
                  · intro c39
                    refine ev_r_iinc (pc := 186) (k := 1) (c := 1) (x := x1) (by decide +kernel) (by decide +kernel) (by exact e34) (fun _ => rfl) ?_
                    intro x40 hx40
                    refine ev_r_goto (pc := 189) (o := (-187)) (t := 2) (by decide +kernel) (by decide +kernel) ?_
                    exact hK2 x40 hx40 s37 _ (by exact (ev_lk_st1 e33 (by decide) rfl)) (by exact ev_lk_st1_self)
                  · intro c39
                    exact hK173  s37 _ (by exact e33)
                · intro K165 hK165
                  refine ev_r_icmp (pc := 154) (q := .ne) (o := 11) (t := 165) (c := x18 ≠ 1) (by decide +kernel) (ev_k_ne hx18 (by decide)) (by decide +kernel) ?_ ?_
                  · intro c41
                    exact hK165  s26 _ (by exact e22) (by exact e23) (by exact e24)
                  · intro c41
                    refine ev_r_aload_n (pc := 157) (k := 0) (v := .ref 281) trivial (by decide +kernel) (by exact e22) ?_
                    refine ev_r_iload_n (pc := 158) (k := 2) (v := Int32.ofInt x20) (by decide +kernel) (by exact e24) ?_
                    refine ev_r_virt (pc := 159) (y := 126) (mi := 133) (na := 1) (k := 281) (as := [.int (Int32.ofInt x20)]) (rest := []) (encc := ev_oI) (Q := ev_bl) (fun x S1 h => jt_133 d (by omega) Q x20 hx20 s26 x S1 h) (by exact ev_ob_281) (by decide +kernel) (by decide +kernel) (by decide +kernel) (by decide +kernel) rfl (by (try simp only [ev_sum, ev_nv_cat]); first | done | rfl) ?_
                    intro x43 s42 hx43
                    replace hx43 := ev_bl_rng hx43
                    show ev_w _ _ _ _ _ [.int (Int32.ofInt x43)] _ _ _ _
                    refine ev_r_if (pc := 162) (q := .ne) (o := 11) (t := 173) (c := x43 ≠ 0) (by decide +kernel) (ev_k_ne hx43 ev_rng0) (by decide +kernel) ?_ ?_
                    · intro c44
                      exact hK173  s42 _ (by exact e22)
                    · intro c44
                      exact hK165  s42 _ (by exact e22) (by exact e23) (by exact e24)
            · intro K152 hK152
              refine ev_r_icmp (pc := 99) (q := .eq) (o := 53) (t := 152) (c := x18 = 1) (by decide +kernel) (ev_k_eq hx18 (by decide)) (by decide +kernel) ?_ ?_
              · intro c45
                exact hK152 x13 hx13 s11 _ (by exact (ev_l1 (ev_l1 e3 (by decide) (by decide)) (by decide) (by decide))) (by exact (ev_l1 (ev_lk_st1 e4 (by decide) rfl) (by decide) (by decide))) (by exact (ev_lk_st1 ev_lk_st1_self (by decide) rfl)) (by exact ev_lk_st1_self)
              · intro c45
                refine ev_r_aload_n (pc := 102) (k := 0) (v := .ref 281) trivial (by decide +kernel) (by exact (ev_l1 (ev_l1 e3 (by decide) (by decide)) (by decide) (by decide))) ?_
                refine ev_r_aload_n (pc := 103) (k := 0) (v := .ref 281) trivial (by decide +kernel) (by exact (ev_l1 (ev_l1 e3 (by decide) (by decide)) (by decide) (by decide))) ?_
                refine ev_r_aload_n (pc := 104) (k := 0) (v := .ref 281) trivial (by decide +kernel) (by exact (ev_l1 (ev_l1 e3 (by decide) (by decide)) (by decide) (by decide))) ?_
                refine ev_r_getI (pc := 105) (y := 82) (ci := 8) (f := 9) (fin := 0) (by decide +kernel) (by decide +kernel) (by exact ev_ob_281) rfl ?_
                intro x46 hx46
                refine ev_r_virt (pc := 108) (y := 123) (mi := 135) (na := 1) (k := 281) (as := [.int (Int32.ofInt x46)]) (rest := [.ref 281]) (encc := ev_oI) (Q := ev_rng) (fun x S1 h => jt_135 d (by omega) Q x46 hx46 s11 x S1 h) (by exact ev_ob_281) (by decide +kernel) (by decide +kernel) (by decide +kernel) (by decide +kernel) rfl (by (try simp only [ev_sum, ev_nv_cat]); first | done | rfl) ?_
                intro x48 s47 hx48
                show ev_w _ _ _ _ _ [.int (Int32.ofInt x48), .ref 281] _ _ _ _
                refine ev_r_putI (pc := 111) (y := 82) (ci := 8) (f := 9) hx48 (by decide +kernel) (by decide +kernel) (by exact ev_ob_281) rfl rfl ?_
                intro s49
                refine ev_r_aload_n (pc := 114) (k := 0) (v := .ref 281) trivial (by decide +kernel) (by exact (ev_l1 (ev_l1 e3 (by decide) (by decide)) (by decide) (by decide))) ?_
                refine ev_r_getI (pc := 115) (y := 82) (ci := 8) (f := 9) (fin := 0) (by decide +kernel) (by decide +kernel) (by exact ev_ob_281) rfl ?_
                intro x50 hx50
                refine ev_r_if (pc := 118) (q := .ge) (o := 26) (t := 144) (c := 0 ≤ x50) (by decide +kernel) (ev_k_ge hx50 ev_rng0) (by decide +kernel) ?_ ?_
                · intro c51
                  refine ev_r_bipush (pc := 144) (k := 6) (by decide +kernel) (by decide +kernel) ?_
                  refine ev_r_aload_n (pc := 146) (k := 0) (v := .ref 281) trivial (by decide +kernel) (by exact (ev_l1 (ev_l1 e3 (by decide) (by decide)) (by decide) (by decide))) ?_
                  refine ev_r_getI (pc := 147) (y := 82) (ci := 8) (f := 9) (fin := 0) (by decide +kernel) (by decide +kernel) (by exact ev_ob_281) rfl ?_
                  intro x52 hx52
                  refine ev_r_imul (pc := 150) (by decide +kernel) ?_
                  intro x53 hx53
                  refine ev_r_istore_n (pc := 151) (k := 2) (by decide +kernel) (by decide +kernel) rfl ?_
                  exact hK152 x53 hx53 s49 _ (by exact (ev_l1 (ev_l1 (ev_l1 e3 (by decide) (by decide)) (by decide) (by decide)) (by decide) (by decide))) (by exact (ev_lk_st1 (ev_l1 (ev_lk_st1 e4 (by decide) rfl) (by decide) (by decide)) (by decide) rfl)) (by exact ev_lk_st1_self) (by exact (ev_l1 ev_lk_st1_self (by decide) (by decide)))
                · intro c51
                  refine ev_r_aload_n (pc := 121) (k := 0) (v := .ref 281) trivial (by decide +kernel) (by exact (ev_l1 (ev_l1 e3 (by decide) (by decide)) (by decide) (by decide))) ?_
                  refine ev_r_aload_n (pc := 122) (k := 0) (v := .ref 281) trivial (by decide +kernel) (by exact (ev_l1 (ev_l1 e3 (by decide) (by decide)) (by decide) (by decide))) ?_
                  refine ev_r_getC (pc := 123) (y := 18) (ci := 8) (f := 8) (fin := 1) (k' := 283) (by decide +kernel) (by decide +kernel) (by exact ev_ob_281) rfl rfl ?_
                  refine ev_r_iload_n (pc := 126) (k := 2) (v := Int32.ofInt x13) (by decide +kernel) (by exact (ev_lk_st1 ev_lk_st1_self (by decide) rfl)) ?_
                  refine ev_r_iconst (pc := 127) (k := 2) (by decide +kernel) ?_
                  refine ev_r_iadd (pc := 128) (by decide +kernel) ?_
                  intro x54 hx54
                  refine ev_r_iald (pc := 129) hx54 (by decide +kernel) (by exact ev_ab_283) ?_
                  intro x55 hx55
                  refine ev_r_putI (pc := 130) (y := 49) (ci := 8) (f := 13) hx55 (by decide +kernel) (by decide +kernel) (by exact ev_ob_281) rfl rfl ?_
                  intro s56
                  refine ev_r_iload_n (pc := 133) (k := 3) (v := Int32.ofInt x18) (by decide +kernel) (by exact ev_lk_st1_self) ?_
                  refine ev_r_iconst (pc := 134) (k := 2) (by decide +kernel) ?_
                  refine ev_r_icmp (pc := 135) (q := .ne) (o := 7) (t := 142) (c := x18 ≠ 2) (by decide +kernel) (ev_k_ne hx18 (by decide)) (by decide +kernel) ?_ ?_
                  · intro c57
                    refine ev_r_iconst (pc := 142) (k := 4) (by decide +kernel) ?_
                    exact ev_r_ireturn (pc := 143) (x := 4) (v := Int32.ofInt 4) (ty := .int) (by decide) (by decide +kernel) (by decide +kernel) rfl rfl
                  · intro c57
                    refine ev_r_iconst (pc := 138) (k := 3) (by decide +kernel) ?_
                    refine ev_r_goto (pc := 139) (o := 4) (t := 143) (by decide +kernel) (by decide +kernel) ?_
                    exact ev_r_ireturn (pc := 143) (x := 3) (v := Int32.ofInt 3) (ty := .int) (by decide) (by decide +kernel) (by decide +kernel) rfl rfl
          · intro c19
            refine ev_r_aload_n (pc := 62) (k := 0) (v := .ref 281) trivial (by decide +kernel) (by exact (ev_l1 (ev_l1 e3 (by decide) (by decide)) (by decide) (by decide))) ?_
            refine ev_r_aload_n (pc := 63) (k := 0) (v := .ref 281) trivial (by decide +kernel) (by exact (ev_l1 (ev_l1 e3 (by decide) (by decide)) (by decide) (by decide))) ?_
            refine ev_r_getC (pc := 64) (y := 18) (ci := 8) (f := 8) (fin := 1) (k' := 283) (by decide +kernel) (by decide +kernel) (by exact ev_ob_281) rfl rfl ?_
            refine ev_r_iload_n (pc := 67) (k := 2) (v := Int32.ofInt x13) (by decide +kernel) (by exact (ev_lk_st1 ev_lk_st1_self (by decide) rfl)) ?_
            refine ev_r_iconst (pc := 68) (k := 1) (by decide +kernel) ?_
            refine ev_r_iadd (pc := 69) (by decide +kernel) ?_
            intro x58 hx58
            refine ev_r_iald (pc := 70) hx58 (by decide +kernel) (by exact ev_ab_283) ?_
            intro x59 hx59
            refine ev_r_putI (pc := 71) (y := 96) (ci := 8) (f := 2) hx59 (by decide +kernel) (by decide +kernel) (by exact ev_ob_281) rfl rfl ?_
            intro s60
            refine ev_r_aload_n (pc := 74) (k := 0) (v := .ref 281) trivial (by decide +kernel) (by exact (ev_l1 (ev_l1 e3 (by decide) (by decide)) (by decide) (by decide))) ?_
            refine ev_r_iload_n (pc := 75) (k := 2) (v := Int32.ofInt x13) (by decide +kernel) (by exact (ev_lk_st1 ev_lk_st1_self (by decide) rfl)) ?_
            refine ev_r_aload_n (pc := 76) (k := 0) (v := .ref 281) trivial (by decide +kernel) (by exact (ev_l1 (ev_l1 e3 (by decide) (by decide)) (by decide) (by decide))) ?_
            refine ev_r_getC (pc := 77) (y := 18) (ci := 8) (f := 8) (fin := 1) (k' := 283) (by decide +kernel) (by decide +kernel) (by exact ev_ob_281) rfl rfl ?_
            refine ev_r_iload_n (pc := 80) (k := 2) (v := Int32.ofInt x13) (by decide +kernel) (by exact (ev_lk_st1 ev_lk_st1_self (by decide) rfl)) ?_
            refine ev_r_iconst (pc := 81) (k := 2) (by decide +kernel) ?_
            refine ev_r_iadd (pc := 82) (by decide +kernel) ?_
            intro x61 hx61
            refine ev_r_iald (pc := 83) hx61 (by decide +kernel) (by exact ev_ab_283) ?_
            intro x62 hx62
            refine ev_r_aload_n (pc := 84) (k := 0) (v := .ref 281) trivial (by decide +kernel) (by exact (ev_l1 (ev_l1 e3 (by decide) (by decide)) (by decide) (by decide))) ?_
            refine ev_r_getC (pc := 85) (y := 18) (ci := 8) (f := 8) (fin := 1) (k' := 283) (by decide +kernel) (by decide +kernel) (by exact ev_ob_281) rfl rfl ?_
            refine ev_r_iload_n (pc := 88) (k := 2) (v := Int32.ofInt x13) (by decide +kernel) (by exact (ev_lk_st1 ev_lk_st1_self (by decide) rfl)) ?_
            refine ev_r_iconst (pc := 89) (k := 3) (by decide +kernel) ?_
            refine ev_r_iadd (pc := 90) (by decide +kernel) ?_
            intro x63 hx63
            refine ev_r_iald (pc := 91) hx63 (by decide +kernel) (by exact ev_ab_283) ?_
            intro x64 hx64
            refine ev_r_virt (pc := 92) (y := 119) (mi := 132) (na := 3) (k := 281) (as := [.int (Int32.ofInt x13), .int (Int32.ofInt x62), .int (Int32.ofInt x64)]) (rest := []) (encc := ev_oU) (Q := ev_PU) (fun x S1 h => jt_132 d (by omega) Q x13 x62 x64 hx13 hx62 hx64 s60 x S1 h) (by exact ev_ob_281) (by decide +kernel) (by decide +kernel) (by decide +kernel) (by decide +kernel) rfl (by (try simp only [ev_sum, ev_nv_cat]); first | done | rfl) ?_
            intro _ s65 _
            show ev_w _ _ _ _ _ [] _ _ _ _
            refine ev_r_iconst (pc := 95) (k := 0) (by decide +kernel) ?_
            exact ev_r_ireturn (pc := 96) (x := 0) (v := Int32.ofInt 0) (ty := .int) (by decide) (by decide +kernel) (by decide +kernel) rfl rfl
        · intro c17
          refine ev_r_iconst (pc := 49) (k := 2) (by decide +kernel) ?_
          exact ev_r_ireturn (pc := 50) (x := 2) (v := Int32.ofInt 2) (ty := .int) (by decide) (by decide +kernel) (by decide +kernel) rfl rfl
theorem jlt_131_2 (d : Nat) (hd : 3 ≤ d + 1) (Q : Nat)     : ∀ q : Nat, ∀ (x1 : Int) (hx1 : ev_rng x1), ∀ (s5 : ev_St) (w2 : List (Nat × Value)), ev_lk w2 0 = some (.ref 281) → ev_lk w2 1 = some (.int (Int32.ofInt x1)) → ev_w none (ev_Mof 131) d 2 w2 [] s5 (jl_131_2 Q   q x1 s5) ev_eI ev_rng := by
  intro q
  induction q with
  | zero =>
    intro x1 hx1 s5 w2 e3 e4
    exact ev_w_none
  | succ q ih => exact jbt_131_2 d hd Q     _ ih
/-- MendBench$Search.goBack()I -/
def jm_131 (Q : Nat)  (S : ev_St) : Option ((Int) × ev_St) := jl_131_2 Q   Q 0 S
theorem jt_131 (d : Nat) (hd : 3 ≤ d) (Q : Nat)   (S : ev_St) (x : Int) (S' : ev_St) (hJ : jm_131 Q  S = some (x, S')) : ev_Ref d 131 [.ref 281] S (ev_eI x) S' (ev_rng x) := by
  obtain ⟨d, rfl⟩ : ∃ e, d = e + 1 := ⟨d - 1, by omega⟩
  refine ev_ref_of (P := ev_rng) (lv := [(0, .ref 281)]) (by decide +kernel) (by (try simp only [ev_sum, ev_nv_cat]); first | done | rfl) (by (try simp only [lv_args, ev_nv_cat]); first | done | rfl) ?_ x S' hJ
  unfold jm_131
  refine ev_r_iconst (pc := 0) (k := 0) (by decide +kernel) ?_
  refine ev_r_istore_n (pc := 1) (k := 1) (by decide +kernel) (by decide +kernel) rfl ?_
  exact jlt_131_2 d hd Q     Q 0 (by decide) S _ (by exact (ev_lk_st1 (by rfl) (by decide) rfl)) (by exact ev_lk_st1_self)
/-- MendBench$Search.pushCell(IIII)I -/
def jm_125 (Q : Nat) (a0 : Int) (a1 : Int) (a2 : Int) (a3 : Int) (S : ev_St) : Option ((Int) × ev_St) := ev_b (S.1 281 7) fun x1 => if x1 < 0 then (some (a0, S)) else (ev_ck (x1 + 4) fun x3 => ev_b (ev_aln 282 : Int) fun x4 => if x3 ≤ x4 then (ev_if ((0 : Int) ≤ x1 ∧ x1 < (ev_aln 282 : Int)) (ev_b (ev_pI S 282 (Int.toNat x1) a0) fun s6 => ev_ck (x1 + 1) fun x7 => ev_if ((0 : Int) ≤ x7 ∧ x7 < (ev_aln 282 : Int)) (ev_b (ev_pI s6 282 (Int.toNat x7) a1) fun s8 => ev_ck (x1 + 2) fun x9 => ev_if ((0 : Int) ≤ x9 ∧ x9 < (ev_aln 282 : Int)) (ev_b (ev_pI s8 282 (Int.toNat x9) a2) fun s10 => ev_ck (x1 + 3) fun x11 => ev_if ((0 : Int) ≤ x11 ∧ x11 < (ev_aln 282 : Int)) (ev_b (ev_pI s10 282 (Int.toNat x11) a3) fun s12 => ev_b (s12.1 281 7) fun x13 => ev_ck (x13 + 4) fun x14 => ev_b (ev_pI s12 281 7 x14) fun s15 => some (x1, s15)))))) else (some (a0, S)))
theorem jt_125 (d : Nat) (hd : 1 ≤ d) (Q : Nat) (a0 : Int) (a1 : Int) (a2 : Int) (a3 : Int) (ha0 : ev_rng a0) (ha1 : ev_rng a1) (ha2 : ev_rng a2) (ha3 : ev_rng a3) (S : ev_St) (x : Int) (S' : ev_St) (hJ : jm_125 Q a0 a1 a2 a3 S = some (x, S')) : ev_Ref d 125 [.ref 281, .int (Int32.ofInt a0), .int (Int32.ofInt a1), .int (Int32.ofInt a2), .int (Int32.ofInt a3)] S (ev_eI x) S' (ev_rng x) := by
  obtain ⟨d, rfl⟩ : ∃ e, d = e + 1 := ⟨d - 1, by omega⟩
  refine ev_ref_of (P := ev_rng) (lv := [(0, .ref 281), (1, .int (Int32.ofInt a0)), (2, .int (Int32.ofInt a1)), (3, .int (Int32.ofInt a2)), (4, .int (Int32.ofInt a3))]) (by decide +kernel) (by (try simp only [ev_sum, ev_nv_cat]); first | done | rfl) (by (try simp only [lv_args, ev_nv_cat]); first | done | rfl) ?_ x S' hJ
  unfold jm_125
  refine ev_r_aload_n (pc := 0) (k := 0) (v := .ref 281) trivial (by decide +kernel) (by rfl) ?_
  refine ev_r_getI (pc := 1) (y := 79) (ci := 8) (f := 7) (fin := 0) (by decide +kernel) (by decide +kernel) (by exact ev_ob_281) rfl ?_
  intro x1 hx1
  refine ev_r_istore (pc := 4) (k := 5) (by decide +kernel) (by decide +kernel) rfl ?_
  refine ev_r_iload (pc := 6) (k := 5) (v := Int32.ofInt x1) (by decide +kernel) (by exact ev_lk_st1_self) ?_
  refine ev_r_if (pc := 8) (q := .lt) (o := 15) (t := 23) (c := x1 < 0) (by decide +kernel) (ev_k_lt hx1 ev_rng0) (by decide +kernel) ?_ ?_
  · intro c2
    refine ev_r_iload_n (pc := 23) (k := 1) (v := Int32.ofInt a0) (by decide +kernel) (by exact (ev_l1 (by rfl) (by decide) (by decide))) ?_
    exact ev_r_ireturn (pc := 24) (x := a0) (v := Int32.ofInt a0) (ty := .int) ha0 (by decide +kernel) (by decide +kernel) rfl rfl
  · intro c2
    refine ev_r_iload (pc := 11) (k := 5) (v := Int32.ofInt x1) (by decide +kernel) (by exact ev_lk_st1_self) ?_
    refine ev_r_iconst (pc := 13) (k := 4) (by decide +kernel) ?_
    refine ev_r_iadd (pc := 14) (by decide +kernel) ?_
    intro x3 hx3
    refine ev_r_aload_n (pc := 15) (k := 0) (v := .ref 281) trivial (by decide +kernel) (by exact (ev_l1 (by rfl) (by decide) (by decide))) ?_
    refine ev_r_getC (pc := 16) (y := 14) (ci := 8) (f := 6) (fin := 1) (k' := 282) (by decide +kernel) (by decide +kernel) (by exact ev_ob_281) rfl rfl ?_
    refine ev_r_alen (pc := 19) (kd := 1) (ty := .int) (Or.inl rfl) (by decide +kernel) (by exact ev_ab_282) ?_
    intro x4 hx4
    refine ev_r_icmp (pc := 20) (q := .le) (o := 5) (t := 25) (c := x3 ≤ x4) (by decide +kernel) (ev_k_le hx3 hx4) (by decide +kernel) ?_ ?_
    · intro c5
      refine ev_r_aload_n (pc := 25) (k := 0) (v := .ref 281) trivial (by decide +kernel) (by exact (ev_l1 (by rfl) (by decide) (by decide))) ?_
      refine ev_r_getC (pc := 26) (y := 14) (ci := 8) (f := 6) (fin := 1) (k' := 282) (by decide +kernel) (by decide +kernel) (by exact ev_ob_281) rfl rfl ?_
      refine ev_r_iload (pc := 29) (k := 5) (v := Int32.ofInt x1) (by decide +kernel) (by exact ev_lk_st1_self) ?_
      refine ev_r_iload_n (pc := 31) (k := 1) (v := Int32.ofInt a0) (by decide +kernel) (by exact (ev_l1 (by rfl) (by decide) (by decide))) ?_
      refine ev_r_iast (pc := 32) ha0 hx1 (by decide +kernel) (by exact ev_ab_282) ?_
      intro s6
      refine ev_r_aload_n (pc := 33) (k := 0) (v := .ref 281) trivial (by decide +kernel) (by exact (ev_l1 (by rfl) (by decide) (by decide))) ?_
      refine ev_r_getC (pc := 34) (y := 14) (ci := 8) (f := 6) (fin := 1) (k' := 282) (by decide +kernel) (by decide +kernel) (by exact ev_ob_281) rfl rfl ?_
      refine ev_r_iload (pc := 37) (k := 5) (v := Int32.ofInt x1) (by decide +kernel) (by exact ev_lk_st1_self) ?_
      refine ev_r_iconst (pc := 39) (k := 1) (by decide +kernel) ?_
      refine ev_r_iadd (pc := 40) (by decide +kernel) ?_
      intro x7 hx7
      refine ev_r_iload_n (pc := 41) (k := 2) (v := Int32.ofInt a1) (by decide +kernel) (by exact (ev_l1 (by rfl) (by decide) (by decide))) ?_
      refine ev_r_iast (pc := 42) ha1 hx7 (by decide +kernel) (by exact ev_ab_282) ?_
      intro s8
      refine ev_r_aload_n (pc := 43) (k := 0) (v := .ref 281) trivial (by decide +kernel) (by exact (ev_l1 (by rfl) (by decide) (by decide))) ?_
      refine ev_r_getC (pc := 44) (y := 14) (ci := 8) (f := 6) (fin := 1) (k' := 282) (by decide +kernel) (by decide +kernel) (by exact ev_ob_281) rfl rfl ?_
      refine ev_r_iload (pc := 47) (k := 5) (v := Int32.ofInt x1) (by decide +kernel) (by exact ev_lk_st1_self) ?_
      refine ev_r_iconst (pc := 49) (k := 2) (by decide +kernel) ?_
      refine ev_r_iadd (pc := 50) (by decide +kernel) ?_
      intro x9 hx9
      refine ev_r_iload_n (pc := 51) (k := 3) (v := Int32.ofInt a2) (by decide +kernel) (by exact (ev_l1 (by rfl) (by decide) (by decide))) ?_
      refine ev_r_iast (pc := 52) ha2 hx9 (by decide +kernel) (by exact ev_ab_282) ?_
      intro s10
      refine ev_r_aload_n (pc := 53) (k := 0) (v := .ref 281) trivial (by decide +kernel) (by exact (ev_l1 (by rfl) (by decide) (by decide))) ?_
      refine ev_r_getC (pc := 54) (y := 14) (ci := 8) (f := 6) (fin := 1) (k' := 282) (by decide +kernel) (by decide +kernel) (by exact ev_ob_281) rfl rfl ?_
      refine ev_r_iload (pc := 57) (k := 5) (v := Int32.ofInt x1) (by decide +kernel) (by exact ev_lk_st1_self) ?_
      refine ev_r_iconst (pc := 59) (k := 3) (by decide +kernel) ?_
      refine ev_r_iadd (pc := 60) (by decide +kernel) ?_
      intro x11 hx11
      refine ev_r_iload (pc := 61) (k := 4) (v := Int32.ofInt a3) (by decide +kernel) (by exact (ev_lk_st1 (by rfl) (by decide) rfl)) ?_
      refine ev_r_iast (pc := 63) ha3 hx11 (by decide +kernel) (by exact ev_ab_282) ?_
      intro s12
      refine ev_r_aload_n (pc := 64) (k := 0) (v := .ref 281) trivial (by decide +kernel) (by exact (ev_l1 (by rfl) (by decide) (by decide))) ?_
      refine ev_r_dup (pc := 65) rfl (by decide +kernel) ?_
      refine ev_r_getI (pc := 66) (y := 79) (ci := 8) (f := 7) (fin := 0) (by decide +kernel) (by decide +kernel) (by exact ev_ob_281) rfl ?_
      intro x13 hx13
      refine ev_r_iconst (pc := 69) (k := 4) (by decide +kernel) ?_
      refine ev_r_iadd (pc := 70) (by decide +kernel) ?_
      intro x14 hx14
      refine ev_r_putI (pc := 71) (y := 79) (ci := 8) (f := 7) hx14 (by decide +kernel) (by decide +kernel) (by exact ev_ob_281) rfl rfl ?_
      intro s15
      refine ev_r_iload (pc := 74) (k := 5) (v := Int32.ofInt x1) (by decide +kernel) (by exact ev_lk_st1_self) ?_
      exact ev_r_ireturn (pc := 76) (x := x1) (v := Int32.ofInt x1) (ty := .int) hx1 (by decide +kernel) (by decide +kernel) rfl rfl
    · intro c5
      refine ev_r_iload_n (pc := 23) (k := 1) (v := Int32.ofInt a0) (by decide +kernel) (by exact (ev_l1 (by rfl) (by decide) (by decide))) ?_
      exact ev_r_ireturn (pc := 24) (x := a0) (v := Int32.ofInt a0) (ty := .int) ha0 (by decide +kernel) (by decide +kernel) rfl rfl
/-- MendBench$Search.push(IIII)I -/
def jm_124 (Q : Nat) (a0 : Int) (a1 : Int) (a2 : Int) (a3 : Int) (S : ev_St) : Option ((Int) × ev_St) := ev_bd (jm_126 Q a0 S) fun x2 s1 => ev_jn (fun (x3 : Int) (s10 : ev_St) => ev_jn (fun (x11 : Int) (x12 : Int) (s20 : ev_St) => ev_ck (x11 + x12) fun x21 => ev_ck (x21 + a1) fun x22 => ev_bd (jm_125 Q a0 x22 a2 a3 s20) fun x24 s23 => some (x24, s23)) fun K47 => if a1 ≠ 2 then (if a1 ≠ 3 then (K47 x3 0 s10) else (K47 x3 256 s10)) else (K47 x3 8 s10)) fun K23 => if x2 = 0 then (K23 0 s1) else (ev_ck (a0 + 1) fun x28 => ev_if ((0 : Int) ≤ x28 ∧ x28 < (ev_aln 282 : Int)) (ev_b (s1.1 282 (Int.toNat x28)) fun x29 => ev_b (ev_iand x29 ((-8))) fun x30 => K23 x30 s1))
theorem jt_124 (d : Nat) (hd : 2 ≤ d) (Q : Nat) (a0 : Int) (a1 : Int) (a2 : Int) (a3 : Int) (ha0 : ev_rng a0) (ha1 : ev_rng a1) (ha2 : ev_rng a2) (ha3 : ev_rng a3) (S : ev_St) (x : Int) (S' : ev_St) (hJ : jm_124 Q a0 a1 a2 a3 S = some (x, S')) : ev_Ref d 124 [.ref 281, .int (Int32.ofInt a0), .int (Int32.ofInt a1), .int (Int32.ofInt a2), .int (Int32.ofInt a3)] S (ev_eI x) S' (ev_rng x) := by
  obtain ⟨d, rfl⟩ : ∃ e, d = e + 1 := ⟨d - 1, by omega⟩
  refine ev_ref_of (P := ev_rng) (lv := [(0, .ref 281), (1, .int (Int32.ofInt a0)), (2, .int (Int32.ofInt a1)), (3, .int (Int32.ofInt a2)), (4, .int (Int32.ofInt a3))]) (by decide +kernel) (by (try simp only [ev_sum, ev_nv_cat]); first | done | rfl) (by (try simp only [lv_args, ev_nv_cat]); first | done | rfl) ?_ x S' hJ
  unfold jm_124
  refine ev_r_aload_n (pc := 0) (k := 0) (v := .ref 281) trivial (by decide +kernel) (by rfl) ?_
  refine ev_r_iload_n (pc := 1) (k := 1) (v := Int32.ofInt a0) (by decide +kernel) (by rfl) ?_
  refine ev_r_virt (pc := 2) (y := 112) (mi := 126) (na := 1) (k := 281) (as := [.int (Int32.ofInt a0)]) (rest := []) (encc := ev_oI) (Q := ev_bl) (fun x S1 h => jt_126 d (by omega) Q a0 ha0 S x S1 h) (by exact ev_ob_281) (by decide +kernel) (by decide +kernel) (by decide +kernel) (by decide +kernel) rfl (by (try simp only [ev_sum, ev_nv_cat]); first | done | rfl) ?_
  intro x2 s1 hx2
  replace hx2 := ev_bl_rng hx2
  show ev_w _ _ _ _ _ [.int (Int32.ofInt x2)] _ _ _ _
  refine ev_r_jn (Q := fun K => ∀ (x3 : Int) (hx3 : ev_rng x3), ∀ (s10 : ev_St) (w4 : List (Nat × Value)), ev_lk w4 0 = some (.ref 281) → ev_lk w4 1 = some (.int (Int32.ofInt a0)) → ev_lk w4 2 = some (.int (Int32.ofInt a1)) → ev_lk w4 3 = some (.int (Int32.ofInt a2)) → ev_lk w4 4 = some (.int (Int32.ofInt a3)) → ev_w none (ev_Mof 124) d 23 w4 [.int (Int32.ofInt x3)] s10 (K x3 s10) ev_eI ev_rng) ?_ ?_
  · intro x3 hx3 s10 w4 e5 e6 e7 e8 e9
    refine ev_r_istore (pc := 23) (k := 5) (by decide +kernel) (by decide +kernel) rfl ?_
    refine ev_r_iload_n (pc := 25) (k := 2) (v := Int32.ofInt a1) (by decide +kernel) (by exact (ev_l1 e7 (by decide) (by decide))) ?_
    refine ev_r_iconst (pc := 26) (k := 2) (by decide +kernel) ?_
    refine ev_r_jn (Q := fun K => ∀ (x11 : Int) (hx11 : ev_rng x11), ∀ (x12 : Int) (hx12 : ev_rng x12), ∀ (s20 : ev_St) (w13 : List (Nat × Value)), ev_lk w13 0 = some (.ref 281) → ev_lk w13 1 = some (.int (Int32.ofInt a0)) → ev_lk w13 2 = some (.int (Int32.ofInt a1)) → ev_lk w13 3 = some (.int (Int32.ofInt a2)) → ev_lk w13 4 = some (.int (Int32.ofInt a3)) → ev_lk w13 5 = some (.int (Int32.ofInt x11)) → ev_w none (ev_Mof 124) d 47 w13 [.int (Int32.ofInt x12)] s20 (K x11 x12 s20) ev_eI ev_rng) ?_ ?_
    · intro x11 hx11 x12 hx12 s20 w13 e14 e15 e16 e17 e18 e19
      refine ev_r_istore (pc := 47) (k := 6) (by decide +kernel) (by decide +kernel) rfl ?_
      refine ev_r_aload_n (pc := 49) (k := 0) (v := .ref 281) trivial (by decide +kernel) (by exact (ev_l1 e14 (by decide) (by decide))) ?_
      refine ev_r_iload_n (pc := 50) (k := 1) (v := Int32.ofInt a0) (by decide +kernel) (by exact (ev_l1 e15 (by decide) (by decide))) ?_
      refine ev_r_iload (pc := 51) (k := 5) (v := Int32.ofInt x11) (by decide +kernel) (by exact (ev_lk_st1 e19 (by decide) rfl)) ?_
      refine ev_r_iload (pc := 53) (k := 6) (v := Int32.ofInt x12) (by decide +kernel) (by exact ev_lk_st1_self) ?_
      refine ev_r_iadd (pc := 55) (by decide +kernel) ?_
      intro x21 hx21
      refine ev_r_iload_n (pc := 56) (k := 2) (v := Int32.ofInt a1) (by decide +kernel) (by exact (ev_l1 e16 (by decide) (by decide))) ?_
      refine ev_r_iadd (pc := 57) (by decide +kernel) ?_
      intro x22 hx22
      refine ev_r_iload_n (pc := 58) (k := 3) (v := Int32.ofInt a2) (by decide +kernel) (by exact (ev_l1 e17 (by decide) (by decide))) ?_
      refine ev_r_iload (pc := 59) (k := 4) (v := Int32.ofInt a3) (by decide +kernel) (by exact (ev_l1 e18 (by decide) (by decide))) ?_
      refine ev_r_virt (pc := 61) (y := 115) (mi := 125) (na := 4) (k := 281) (as := [.int (Int32.ofInt a0), .int (Int32.ofInt x22), .int (Int32.ofInt a2), .int (Int32.ofInt a3)]) (rest := []) (encc := ev_oI) (Q := ev_rng) (fun x S1 h => jt_125 d (by omega) Q a0 x22 a2 a3 ha0 hx22 ha2 ha3 s20 x S1 h) (by exact ev_ob_281) (by decide +kernel) (by decide +kernel) (by decide +kernel) (by decide +kernel) rfl (by (try simp only [ev_sum, ev_nv_cat]); first | done | rfl) ?_
      intro x24 s23 hx24
      show ev_w _ _ _ _ _ [.int (Int32.ofInt x24)] _ _ _ _
      exact ev_r_ireturn (pc := 64) (x := x24) (v := Int32.ofInt x24) (ty := .int) hx24 (by decide +kernel) (by decide +kernel) rfl rfl
    · intro K47 hK47
      refine ev_r_icmp (pc := 27) (q := .ne) (o := 8) (t := 35) (c := a1 ≠ 2) (by decide +kernel) (ev_k_ne ha1 (by decide)) (by decide +kernel) ?_ ?_
      · intro c25
        refine ev_r_iload_n (pc := 35) (k := 2) (v := Int32.ofInt a1) (by decide +kernel) (by exact (ev_l1 e7 (by decide) (by decide))) ?_
        refine ev_r_iconst (pc := 36) (k := 3) (by decide +kernel) ?_
        refine ev_r_icmp (pc := 37) (q := .ne) (o := 9) (t := 46) (c := a1 ≠ 3) (by decide +kernel) (ev_k_ne ha1 (by decide)) (by decide +kernel) ?_ ?_
        · intro c26
          refine ev_r_iconst (pc := 46) (k := 0) (by decide +kernel) ?_
          exact hK47 x3 hx3 0 (by decide) s10 _ (by exact (ev_l1 e5 (by decide) (by decide))) (by exact (ev_l1 e6 (by decide) (by decide))) (by exact (ev_l1 e7 (by decide) (by decide))) (by exact (ev_l1 e8 (by decide) (by decide))) (by exact (ev_lk_st1 e9 (by decide) rfl)) (by exact ev_lk_st1_self)
        · intro c26
          refine ev_r_sipush (pc := 40) (k := 256) (by decide +kernel) (by decide +kernel) ?_
          refine ev_r_goto (pc := 43) (o := 4) (t := 47) (by decide +kernel) (by decide +kernel) ?_
          exact hK47 x3 hx3 256 (by decide) s10 _ (by exact (ev_l1 e5 (by decide) (by decide))) (by exact (ev_l1 e6 (by decide) (by decide))) (by exact (ev_l1 e7 (by decide) (by decide))) (by exact (ev_l1 e8 (by decide) (by decide))) (by exact (ev_lk_st1 e9 (by decide) rfl)) (by exact ev_lk_st1_self)
      · intro c25
        refine ev_r_bipush (pc := 30) (k := 8) (by decide +kernel) (by decide +kernel) ?_
        refine ev_r_goto (pc := 32) (o := 15) (t := 47) (by decide +kernel) (by decide +kernel) ?_
        exact hK47 x3 hx3 8 (by decide) s10 _ (by exact (ev_l1 e5 (by decide) (by decide))) (by exact (ev_l1 e6 (by decide) (by decide))) (by exact (ev_l1 e7 (by decide) (by decide))) (by exact (ev_l1 e8 (by decide) (by decide))) (by exact (ev_lk_st1 e9 (by decide) rfl)) (by exact ev_lk_st1_self)
  · intro K23 hK23
    refine ev_r_if (pc := 5) (q := .eq) (o := 17) (t := 22) (c := x2 = 0) (by decide +kernel) (ev_k_eq hx2 ev_rng0) (by decide +kernel) ?_ ?_
    · intro c27
      refine ev_r_iconst (pc := 22) (k := 0) (by decide +kernel) ?_
      exact hK23 0 (by decide) s1 _ (by rfl) (by rfl) (by rfl) (by rfl) (by rfl)
    · intro c27
      refine ev_r_aload_n (pc := 8) (k := 0) (v := .ref 281) trivial (by decide +kernel) (by rfl) ?_
      refine ev_r_getC (pc := 9) (y := 14) (ci := 8) (f := 6) (fin := 1) (k' := 282) (by decide +kernel) (by decide +kernel) (by exact ev_ob_281) rfl rfl ?_
      refine ev_r_iload_n (pc := 12) (k := 1) (v := Int32.ofInt a0) (by decide +kernel) (by rfl) ?_
      refine ev_r_iconst (pc := 13) (k := 1) (by decide +kernel) ?_
      refine ev_r_iadd (pc := 14) (by decide +kernel) ?_
      intro x28 hx28
      refine ev_r_iald (pc := 15) hx28 (by decide +kernel) (by exact ev_ab_282) ?_
      intro x29 hx29
      refine ev_r_bipush (pc := 16) (k := -8) (by decide +kernel) (by decide +kernel) ?_
      refine ev_r_iand (pc := 18) (by decide +kernel) ?_
      intro x30 hx30
      refine ev_r_goto (pc := 19) (o := 4) (t := 23) (by decide +kernel) (by decide +kernel) ?_
      exact hK23 x30 hx30 s1 _ (by rfl) (by rfl) (by rfl) (by rfl) (by rfl)
/-- MendBench.isWord(I)Z -/
def jm_210 (Q : Nat) (a0 : Int) (S : ev_St) : Option ((Int) × ev_St) := ev_jn (fun  (s3 : ev_St) => ev_jn (fun  (s6 : ev_St) => ev_jn (fun  (s9 : ev_St) => if a0 ≠ 95 then (some (0, s9)) else (some (1, s9))) fun K36 => if a0 < 48 then (K36  s6) else (if a0 ≤ 57 then (some (1, s6)) else (K36  s6))) fun K24 => if a0 < 65 then (K24  s3) else (if a0 ≤ 90 then (some (1, s3)) else (K24  s3))) fun K12 => if a0 < 97 then (K12  S) else (if a0 ≤ 122 then (some (1, S)) else (K12  S))
theorem jt_210 (d : Nat) (hd : 1 ≤ d) (Q : Nat) (a0 : Int) (ha0 : ev_rng a0) (S : ev_St) (x : Int) (S' : ev_St) (hJ : jm_210 Q a0 S = some (x, S')) : ev_Ref d 210 [.int (Int32.ofInt a0)] S (ev_eI x) S' (ev_bl x) := by
  obtain ⟨d, rfl⟩ : ∃ e, d = e + 1 := ⟨d - 1, by omega⟩
  refine ev_ref_of (P := ev_bl) (lv := [(0, .int (Int32.ofInt a0))]) (by decide +kernel) (by (try simp only [ev_sum, ev_nv_cat]); first | done | rfl) (by (try simp only [lv_args, ev_nv_cat]); first | done | rfl) ?_ x S' hJ
  unfold jm_210
  refine ev_r_iload_n (pc := 0) (k := 0) (v := Int32.ofInt a0) (by decide +kernel) (by rfl) ?_
  refine ev_r_bipush (pc := 1) (k := 97) (by decide +kernel) (by decide +kernel) ?_
  refine ev_r_jn (Q := fun K => ∀ (s3 : ev_St) (w1 : List (Nat × Value)), ev_lk w1 0 = some (.int (Int32.ofInt a0)) → ev_w none (ev_Mof 210) d 12 w1 [] s3 (K  s3) ev_eI ev_bl) ?_ ?_
  · intro  s3 w1 e2
    refine ev_r_iload_n (pc := 12) (k := 0) (v := Int32.ofInt a0) (by decide +kernel) (by exact e2) ?_
    refine ev_r_bipush (pc := 13) (k := 65) (by decide +kernel) (by decide +kernel) ?_
    refine ev_r_jn (Q := fun K => ∀ (s6 : ev_St) (w4 : List (Nat × Value)), ev_lk w4 0 = some (.int (Int32.ofInt a0)) → ev_w none (ev_Mof 210) d 24 w4 [] s6 (K  s6) ev_eI ev_bl) ?_ ?_
    · intro  s6 w4 e5
      refine ev_r_iload_n (pc := 24) (k := 0) (v := Int32.ofInt a0) (by decide +kernel) (by exact e5) ?_
      refine ev_r_bipush (pc := 25) (k := 48) (by decide +kernel) (by decide +kernel) ?_
      refine ev_r_jn (Q := fun K => ∀ (s9 : ev_St) (w7 : List (Nat × Value)), ev_lk w7 0 = some (.int (Int32.ofInt a0)) → ev_w none (ev_Mof 210) d 36 w7 [] s9 (K  s9) ev_eI ev_bl) ?_ ?_
      · intro  s9 w7 e8
        refine ev_r_iload_n (pc := 36) (k := 0) (v := Int32.ofInt a0) (by decide +kernel) (by exact e8) ?_
        refine ev_r_bipush (pc := 37) (k := 95) (by decide +kernel) (by decide +kernel) ?_
        refine ev_r_icmp (pc := 39) (q := .ne) (o := 7) (t := 46) (c := a0 ≠ 95) (by decide +kernel) (ev_k_ne ha0 (by decide)) (by decide +kernel) ?_ ?_
        · intro c10
          refine ev_r_iconst (pc := 46) (k := 0) (by decide +kernel) ?_
          exact ev_r_ireturn (pc := 47) (x := 0) (v := Int32.ofInt 0) (ty := .boolean) (by decide : ev_bl 0) (by decide +kernel) (by decide +kernel) (ev_ret_bl (by decide : ev_bl 0)) rfl
        · intro c10
          refine ev_r_iconst (pc := 42) (k := 1) (by decide +kernel) ?_
          refine ev_r_goto (pc := 43) (o := 4) (t := 47) (by decide +kernel) (by decide +kernel) ?_
          exact ev_r_ireturn (pc := 47) (x := 1) (v := Int32.ofInt 1) (ty := .boolean) (by decide : ev_bl 1) (by decide +kernel) (by decide +kernel) (ev_ret_bl (by decide : ev_bl 1)) rfl
      · intro K36 hK36
        refine ev_r_icmp (pc := 27) (q := .lt) (o := 9) (t := 36) (c := a0 < 48) (by decide +kernel) (ev_k_lt ha0 (by decide)) (by decide +kernel) ?_ ?_
        · intro c11
          exact hK36  s6 _ (by exact e5)
        · intro c11
          refine ev_r_iload_n (pc := 30) (k := 0) (v := Int32.ofInt a0) (by decide +kernel) (by exact e5) ?_
          refine ev_r_bipush (pc := 31) (k := 57) (by decide +kernel) (by decide +kernel) ?_
          refine ev_r_icmp (pc := 33) (q := .le) (o := 9) (t := 42) (c := a0 ≤ 57) (by decide +kernel) (ev_k_le ha0 (by decide)) (by decide +kernel) ?_ ?_
          · intro c12
            refine ev_r_iconst (pc := 42) (k := 1) (by decide +kernel) ?_
            refine ev_r_goto (pc := 43) (o := 4) (t := 47) (by decide +kernel) (by decide +kernel) ?_
            exact ev_r_ireturn (pc := 47) (x := 1) (v := Int32.ofInt 1) (ty := .boolean) (by decide : ev_bl 1) (by decide +kernel) (by decide +kernel) (ev_ret_bl (by decide : ev_bl 1)) rfl
          · intro c12
            exact hK36  s6 _ (by exact e5)
    · intro K24 hK24
      refine ev_r_icmp (pc := 15) (q := .lt) (o := 9) (t := 24) (c := a0 < 65) (by decide +kernel) (ev_k_lt ha0 (by decide)) (by decide +kernel) ?_ ?_
      · intro c13
        exact hK24  s3 _ (by exact e2)
      · intro c13
        refine ev_r_iload_n (pc := 18) (k := 0) (v := Int32.ofInt a0) (by decide +kernel) (by exact e2) ?_
        refine ev_r_bipush (pc := 19) (k := 90) (by decide +kernel) (by decide +kernel) ?_
        refine ev_r_icmp (pc := 21) (q := .le) (o := 21) (t := 42) (c := a0 ≤ 90) (by decide +kernel) (ev_k_le ha0 (by decide)) (by decide +kernel) ?_ ?_
        · intro c14
          refine ev_r_iconst (pc := 42) (k := 1) (by decide +kernel) ?_
          refine ev_r_goto (pc := 43) (o := 4) (t := 47) (by decide +kernel) (by decide +kernel) ?_
          exact ev_r_ireturn (pc := 47) (x := 1) (v := Int32.ofInt 1) (ty := .boolean) (by decide : ev_bl 1) (by decide +kernel) (by decide +kernel) (ev_ret_bl (by decide : ev_bl 1)) rfl
        · intro c14
          exact hK24  s3 _ (by exact e2)
  · intro K12 hK12
    refine ev_r_icmp (pc := 3) (q := .lt) (o := 9) (t := 12) (c := a0 < 97) (by decide +kernel) (ev_k_lt ha0 (by decide)) (by decide +kernel) ?_ ?_
    · intro c15
      exact hK12  S _ (by rfl)
    · intro c15
      refine ev_r_iload_n (pc := 6) (k := 0) (v := Int32.ofInt a0) (by decide +kernel) (by rfl) ?_
      refine ev_r_bipush (pc := 7) (k := 122) (by decide +kernel) (by decide +kernel) ?_
      refine ev_r_icmp (pc := 9) (q := .le) (o := 33) (t := 42) (c := a0 ≤ 122) (by decide +kernel) (ev_k_le ha0 (by decide)) (by decide +kernel) ?_ ?_
      · intro c16
        refine ev_r_iconst (pc := 42) (k := 1) (by decide +kernel) ?_
        refine ev_r_goto (pc := 43) (o := 4) (t := 47) (by decide +kernel) (by decide +kernel) ?_
        exact ev_r_ireturn (pc := 47) (x := 1) (v := Int32.ofInt 1) (ty := .boolean) (by decide : ev_bl 1) (by decide +kernel) (by decide +kernel) (ev_ret_bl (by decide : ev_bl 1)) rfl
      · intro c16
        exact hK12  S _ (by rfl)
/-- MendBench$Text.isSuch(II)Z -/
def jm_155 (Q : Nat) (k : Nat) (a0 : Int) (a1 : Int) (S : ev_St) : Option ((Int) × ev_St) := if a0 = 1 then (if a1 ≠ 0 then (some (0, S)) else (some (1, S))) else (if a0 = 2 then (if a1 = 0 then (some (1, S)) else (ev_ck (a1 - 1) fun x5 => ev_bd (jm_151 Q k x5 S) fun x7 s6 => if x7 ≠ 10 then (some (0, s6)) else (some (1, s6)))) else (if a0 = 3 then (ev_b (S.1 k 1) fun x10 => if a1 ≠ x10 then (some (0, S)) else (some (1, S))) else (if a0 = 4 then (ev_b (S.1 k 1) fun x13 => if a1 = x13 then (some (1, S)) else (ev_bd (jm_151 Q k a1 S) fun x16 s15 => if x16 ≠ 10 then (some (0, s15)) else (some (1, s15)))) else (if a0 = 5 then (ev_ck (a1 - 1) fun x19 => ev_bd (jm_151 Q k x19 S) fun x21 s20 => ev_bd (jm_210 Q x21 s20) fun x23 s22 => ev_bd (jm_151 Q k a1 s22) fun x25 s24 => ev_bd (jm_210 Q x25 s24) fun x27 s26 => if x23 = x27 then (some (0, s26)) else (some (1, s26))) else (ev_ck (a1 - 1) fun x29 => ev_bd (jm_151 Q k x29 S) fun x31 s30 => ev_bd (jm_210 Q x31 s30) fun x33 s32 => ev_bd (jm_151 Q k a1 s32) fun x35 s34 => ev_bd (jm_210 Q x35 s34) fun x37 s36 => if x33 ≠ x37 then (some (0, s36)) else (some (1, s36)))))))
theorem jt_155 (d : Nat) (hd : 2 ≤ d) (Q : Nat) (k : Nat) (a0 : Int) (a1 : Int) (hk : ev_isOb k 10 = true) (ha0 : ev_rng a0) (ha1 : ev_rng a1) (S : ev_St) (x : Int) (S' : ev_St) (hJ : jm_155 Q k a0 a1 S = some (x, S')) : ev_Ref d 155 [.ref k, .int (Int32.ofInt a0), .int (Int32.ofInt a1)] S (ev_eI x) S' (ev_bl x) := by
  obtain ⟨d, rfl⟩ : ∃ e, d = e + 1 := ⟨d - 1, by omega⟩
  refine ev_ref_of (P := ev_bl) (lv := [(0, .ref k), (1, .int (Int32.ofInt a0)), (2, .int (Int32.ofInt a1))]) (by decide +kernel) (by (try simp only [ev_sum, ev_nv_cat]); first | done | rfl) (by (try simp only [lv_args, ev_nv_cat]); first | done | rfl) ?_ x S' hJ
  unfold jm_155
  refine ev_r_iload_n (pc := 0) (k := 1) (v := Int32.ofInt a0) (by decide +kernel) (by rfl) ?_
  refine ev_r_ite ?_ ?_
  · intro c1
    refine ev_r_sw (pc := 1) (i := (.tableswitch 132 1 5 #[35, 45, 67, 81, 105])) (len := 35) (pc' := 36) (by decide +kernel) (by rw [c1]; rw [ev_pure_tsw]; exact ev_tsw_c (o := 35) (by decide) (by decide) rfl (by decide +kernel)) ?_
    refine ev_r_iload_n (pc := 36) (k := 2) (v := Int32.ofInt a1) (by decide +kernel) (by rfl) ?_
    refine ev_r_if (pc := 37) (q := .ne) (o := 7) (t := 44) (c := a1 ≠ 0) (by decide +kernel) (ev_k_ne ha1 ev_rng0) (by decide +kernel) ?_ ?_
    · intro c2
      refine ev_r_iconst (pc := 44) (k := 0) (by decide +kernel) ?_
      exact ev_r_ireturn (pc := 45) (x := 0) (v := Int32.ofInt 0) (ty := .boolean) (by decide : ev_bl 0) (by decide +kernel) (by decide +kernel) (ev_ret_bl (by decide : ev_bl 0)) rfl
    · intro c2
      refine ev_r_iconst (pc := 40) (k := 1) (by decide +kernel) ?_
      refine ev_r_goto (pc := 41) (o := 4) (t := 45) (by decide +kernel) (by decide +kernel) ?_
      exact ev_r_ireturn (pc := 45) (x := 1) (v := Int32.ofInt 1) (ty := .boolean) (by decide : ev_bl 1) (by decide +kernel) (by decide +kernel) (ev_ret_bl (by decide : ev_bl 1)) rfl
  · intro c1
    refine ev_r_ite ?_ ?_
    · intro c3
      refine ev_r_sw (pc := 1) (i := (.tableswitch 132 1 5 #[35, 45, 67, 81, 105])) (len := 35) (pc' := 46) (by decide +kernel) (by rw [c3]; rw [ev_pure_tsw]; exact ev_tsw_c (o := 45) (by decide) (by decide) rfl (by decide +kernel)) ?_
      refine ev_r_iload_n (pc := 46) (k := 2) (v := Int32.ofInt a1) (by decide +kernel) (by rfl) ?_
      refine ev_r_if (pc := 47) (q := .eq) (o := 15) (t := 62) (c := a1 = 0) (by decide +kernel) (ev_k_eq ha1 ev_rng0) (by decide +kernel) ?_ ?_
      · intro c4
        refine ev_r_iconst (pc := 62) (k := 1) (by decide +kernel) ?_
        refine ev_r_goto (pc := 63) (o := 4) (t := 67) (by decide +kernel) (by decide +kernel) ?_
        exact ev_r_ireturn (pc := 67) (x := 1) (v := Int32.ofInt 1) (ty := .boolean) (by decide : ev_bl 1) (by decide +kernel) (by decide +kernel) (ev_ret_bl (by decide : ev_bl 1)) rfl
      · intro c4
        refine ev_r_aload_n (pc := 50) (k := 0) (v := .ref k) trivial (by decide +kernel) (by rfl) ?_
        refine ev_r_iload_n (pc := 51) (k := 2) (v := Int32.ofInt a1) (by decide +kernel) (by rfl) ?_
        refine ev_r_iconst (pc := 52) (k := 1) (by decide +kernel) ?_
        refine ev_r_isub (pc := 53) (by decide +kernel) ?_
        intro x5 hx5
        refine ev_r_virt (pc := 54) (y := 25) (mi := 151) (na := 1) (k := k) (as := [.int (Int32.ofInt x5)]) (rest := []) (encc := ev_oI) (Q := ev_rng) (fun x S1 h => jt_151 d (by omega) Q k x5 hk hx5 S x S1 h) (by exact hk) (by decide +kernel) (by decide +kernel) (by decide +kernel) (by decide +kernel) rfl (by (try simp only [ev_sum, ev_nv_cat]); first | done | rfl) ?_
        intro x7 s6 hx7
        show ev_w _ _ _ _ _ [.int (Int32.ofInt x7)] _ _ _ _
        refine ev_r_bipush (pc := 57) (k := 10) (by decide +kernel) (by decide +kernel) ?_
        refine ev_r_icmp (pc := 59) (q := .ne) (o := 7) (t := 66) (c := x7 ≠ 10) (by decide +kernel) (ev_k_ne hx7 (by decide)) (by decide +kernel) ?_ ?_
        · intro c8
          refine ev_r_iconst (pc := 66) (k := 0) (by decide +kernel) ?_
          exact ev_r_ireturn (pc := 67) (x := 0) (v := Int32.ofInt 0) (ty := .boolean) (by decide : ev_bl 0) (by decide +kernel) (by decide +kernel) (ev_ret_bl (by decide : ev_bl 0)) rfl
        · intro c8
          refine ev_r_iconst (pc := 62) (k := 1) (by decide +kernel) ?_
          refine ev_r_goto (pc := 63) (o := 4) (t := 67) (by decide +kernel) (by decide +kernel) ?_
          exact ev_r_ireturn (pc := 67) (x := 1) (v := Int32.ofInt 1) (ty := .boolean) (by decide : ev_bl 1) (by decide +kernel) (by decide +kernel) (ev_ret_bl (by decide : ev_bl 1)) rfl
    · intro c3
      refine ev_r_ite ?_ ?_
      · intro c9
        refine ev_r_sw (pc := 1) (i := (.tableswitch 132 1 5 #[35, 45, 67, 81, 105])) (len := 35) (pc' := 68) (by decide +kernel) (by rw [c9]; rw [ev_pure_tsw]; exact ev_tsw_c (o := 67) (by decide) (by decide) rfl (by decide +kernel)) ?_
        refine ev_r_iload_n (pc := 68) (k := 2) (v := Int32.ofInt a1) (by decide +kernel) (by rfl) ?_
        refine ev_r_aload_n (pc := 69) (k := 0) (v := .ref k) trivial (by decide +kernel) (by rfl) ?_
        refine ev_r_getI (pc := 70) (y := 15) (ci := 10) (f := 1) (fin := 0) (by decide +kernel) (by decide +kernel) (by exact hk) rfl ?_
        intro x10 hx10
        refine ev_r_icmp (pc := 73) (q := .ne) (o := 7) (t := 80) (c := a1 ≠ x10) (by decide +kernel) (ev_k_ne ha1 hx10) (by decide +kernel) ?_ ?_
        · intro c11
          refine ev_r_iconst (pc := 80) (k := 0) (by decide +kernel) ?_
          exact ev_r_ireturn (pc := 81) (x := 0) (v := Int32.ofInt 0) (ty := .boolean) (by decide : ev_bl 0) (by decide +kernel) (by decide +kernel) (ev_ret_bl (by decide : ev_bl 0)) rfl
        · intro c11
          refine ev_r_iconst (pc := 76) (k := 1) (by decide +kernel) ?_
          refine ev_r_goto (pc := 77) (o := 4) (t := 81) (by decide +kernel) (by decide +kernel) ?_
          exact ev_r_ireturn (pc := 81) (x := 1) (v := Int32.ofInt 1) (ty := .boolean) (by decide : ev_bl 1) (by decide +kernel) (by decide +kernel) (ev_ret_bl (by decide : ev_bl 1)) rfl
      · intro c9
        refine ev_r_ite ?_ ?_
        · intro c12
          refine ev_r_sw (pc := 1) (i := (.tableswitch 132 1 5 #[35, 45, 67, 81, 105])) (len := 35) (pc' := 82) (by decide +kernel) (by rw [c12]; rw [ev_pure_tsw]; exact ev_tsw_c (o := 81) (by decide) (by decide) rfl (by decide +kernel)) ?_
          refine ev_r_iload_n (pc := 82) (k := 2) (v := Int32.ofInt a1) (by decide +kernel) (by rfl) ?_
          refine ev_r_aload_n (pc := 83) (k := 0) (v := .ref k) trivial (by decide +kernel) (by rfl) ?_
          refine ev_r_getI (pc := 84) (y := 15) (ci := 10) (f := 1) (fin := 0) (by decide +kernel) (by decide +kernel) (by exact hk) rfl ?_
          intro x13 hx13
          refine ev_r_icmp (pc := 87) (q := .eq) (o := 13) (t := 100) (c := a1 = x13) (by decide +kernel) (ev_k_eq ha1 hx13) (by decide +kernel) ?_ ?_
          · intro c14
            refine ev_r_iconst (pc := 100) (k := 1) (by decide +kernel) ?_
            refine ev_r_goto (pc := 101) (o := 4) (t := 105) (by decide +kernel) (by decide +kernel) ?_
            exact ev_r_ireturn (pc := 105) (x := 1) (v := Int32.ofInt 1) (ty := .boolean) (by decide : ev_bl 1) (by decide +kernel) (by decide +kernel) (ev_ret_bl (by decide : ev_bl 1)) rfl
          · intro c14
            refine ev_r_aload_n (pc := 90) (k := 0) (v := .ref k) trivial (by decide +kernel) (by rfl) ?_
            refine ev_r_iload_n (pc := 91) (k := 2) (v := Int32.ofInt a1) (by decide +kernel) (by rfl) ?_
            refine ev_r_virt (pc := 92) (y := 25) (mi := 151) (na := 1) (k := k) (as := [.int (Int32.ofInt a1)]) (rest := []) (encc := ev_oI) (Q := ev_rng) (fun x S1 h => jt_151 d (by omega) Q k a1 hk ha1 S x S1 h) (by exact hk) (by decide +kernel) (by decide +kernel) (by decide +kernel) (by decide +kernel) rfl (by (try simp only [ev_sum, ev_nv_cat]); first | done | rfl) ?_
            intro x16 s15 hx16
            show ev_w _ _ _ _ _ [.int (Int32.ofInt x16)] _ _ _ _
            refine ev_r_bipush (pc := 95) (k := 10) (by decide +kernel) (by decide +kernel) ?_
            refine ev_r_icmp (pc := 97) (q := .ne) (o := 7) (t := 104) (c := x16 ≠ 10) (by decide +kernel) (ev_k_ne hx16 (by decide)) (by decide +kernel) ?_ ?_
            · intro c17
              refine ev_r_iconst (pc := 104) (k := 0) (by decide +kernel) ?_
              exact ev_r_ireturn (pc := 105) (x := 0) (v := Int32.ofInt 0) (ty := .boolean) (by decide : ev_bl 0) (by decide +kernel) (by decide +kernel) (ev_ret_bl (by decide : ev_bl 0)) rfl
            · intro c17
              refine ev_r_iconst (pc := 100) (k := 1) (by decide +kernel) ?_
              refine ev_r_goto (pc := 101) (o := 4) (t := 105) (by decide +kernel) (by decide +kernel) ?_
              exact ev_r_ireturn (pc := 105) (x := 1) (v := Int32.ofInt 1) (ty := .boolean) (by decide : ev_bl 1) (by decide +kernel) (by decide +kernel) (ev_ret_bl (by decide : ev_bl 1)) rfl
        · intro c12
          refine ev_r_ite ?_ ?_
          · intro c18
            refine ev_r_sw (pc := 1) (i := (.tableswitch 132 1 5 #[35, 45, 67, 81, 105])) (len := 35) (pc' := 106) (by decide +kernel) (by rw [c18]; rw [ev_pure_tsw]; exact ev_tsw_c (o := 105) (by decide) (by decide) rfl (by decide +kernel)) ?_
            refine ev_r_aload_n (pc := 106) (k := 0) (v := .ref k) trivial (by decide +kernel) (by rfl) ?_
            refine ev_r_iload_n (pc := 107) (k := 2) (v := Int32.ofInt a1) (by decide +kernel) (by rfl) ?_
            refine ev_r_iconst (pc := 108) (k := 1) (by decide +kernel) ?_
            refine ev_r_isub (pc := 109) (by decide +kernel) ?_
            intro x19 hx19
            refine ev_r_virt (pc := 110) (y := 25) (mi := 151) (na := 1) (k := k) (as := [.int (Int32.ofInt x19)]) (rest := []) (encc := ev_oI) (Q := ev_rng) (fun x S1 h => jt_151 d (by omega) Q k x19 hk hx19 S x S1 h) (by exact hk) (by decide +kernel) (by decide +kernel) (by decide +kernel) (by decide +kernel) rfl (by (try simp only [ev_sum, ev_nv_cat]); first | done | rfl) ?_
            intro x21 s20 hx21
            show ev_w _ _ _ _ _ [.int (Int32.ofInt x21)] _ _ _ _
            refine ev_r_stat (pc := 113) (y := 29) (kind := 5) (mi := 210) (na := 1) (as := [.int (Int32.ofInt x21)]) (rest := []) (encc := ev_oI) (Q := ev_bl) (fun x S1 h => jt_210 d (by omega) Q x21 hx21 s20 x S1 h) (Or.inr (Or.inl rfl)) (by decide +kernel) (by decide +kernel) (by decide +kernel) (by decide +kernel) rfl (by (try simp only [ev_sum, ev_nv_cat]); first | done | rfl) ?_
            intro x23 s22 hx23
            replace hx23 := ev_bl_rng hx23
            show ev_w _ _ _ _ _ [.int (Int32.ofInt x23)] _ _ _ _
            refine ev_r_aload_n (pc := 116) (k := 0) (v := .ref k) trivial (by decide +kernel) (by rfl) ?_
            refine ev_r_iload_n (pc := 117) (k := 2) (v := Int32.ofInt a1) (by decide +kernel) (by rfl) ?_
            refine ev_r_virt (pc := 118) (y := 25) (mi := 151) (na := 1) (k := k) (as := [.int (Int32.ofInt a1)]) (rest := [.int (Int32.ofInt x23)]) (encc := ev_oI) (Q := ev_rng) (fun x S1 h => jt_151 d (by omega) Q k a1 hk ha1 s22 x S1 h) (by exact hk) (by decide +kernel) (by decide +kernel) (by decide +kernel) (by decide +kernel) rfl (by (try simp only [ev_sum, ev_nv_cat]); first | done | rfl) ?_
            intro x25 s24 hx25
            show ev_w _ _ _ _ _ [.int (Int32.ofInt x25), .int (Int32.ofInt x23)] _ _ _ _
            refine ev_r_stat (pc := 121) (y := 29) (kind := 5) (mi := 210) (na := 1) (as := [.int (Int32.ofInt x25)]) (rest := [.int (Int32.ofInt x23)]) (encc := ev_oI) (Q := ev_bl) (fun x S1 h => jt_210 d (by omega) Q x25 hx25 s24 x S1 h) (Or.inr (Or.inl rfl)) (by decide +kernel) (by decide +kernel) (by decide +kernel) (by decide +kernel) rfl (by (try simp only [ev_sum, ev_nv_cat]); first | done | rfl) ?_
            intro x27 s26 hx27
            replace hx27 := ev_bl_rng hx27
            show ev_w _ _ _ _ _ [.int (Int32.ofInt x27), .int (Int32.ofInt x23)] _ _ _ _
            refine ev_r_icmp (pc := 124) (q := .eq) (o := 7) (t := 131) (c := x23 = x27) (by decide +kernel) (ev_k_eq hx23 hx27) (by decide +kernel) ?_ ?_
            · intro c28
              refine ev_r_iconst (pc := 131) (k := 0) (by decide +kernel) ?_
              exact ev_r_ireturn (pc := 132) (x := 0) (v := Int32.ofInt 0) (ty := .boolean) (by decide : ev_bl 0) (by decide +kernel) (by decide +kernel) (ev_ret_bl (by decide : ev_bl 0)) rfl
            · intro c28
              refine ev_r_iconst (pc := 127) (k := 1) (by decide +kernel) ?_
              refine ev_r_goto (pc := 128) (o := 4) (t := 132) (by decide +kernel) (by decide +kernel) ?_
              exact ev_r_ireturn (pc := 132) (x := 1) (v := Int32.ofInt 1) (ty := .boolean) (by decide : ev_bl 1) (by decide +kernel) (by decide +kernel) (ev_ret_bl (by decide : ev_bl 1)) rfl
          · intro c18
            refine ev_r_sw (pc := 1) (i := (.tableswitch 132 1 5 #[35, 45, 67, 81, 105])) (len := 35) (pc' := 133) (by decide +kernel) (by rw [ev_pure_tsw]; exact ev_tsw_d ha0 (by omega) (by decide +kernel)) ?_
            refine ev_r_aload_n (pc := 133) (k := 0) (v := .ref k) trivial (by decide +kernel) (by rfl) ?_
            refine ev_r_iload_n (pc := 134) (k := 2) (v := Int32.ofInt a1) (by decide +kernel) (by rfl) ?_
            refine ev_r_iconst (pc := 135) (k := 1) (by decide +kernel) ?_
            refine ev_r_isub (pc := 136) (by decide +kernel) ?_
            intro x29 hx29
            refine ev_r_virt (pc := 137) (y := 25) (mi := 151) (na := 1) (k := k) (as := [.int (Int32.ofInt x29)]) (rest := []) (encc := ev_oI) (Q := ev_rng) (fun x S1 h => jt_151 d (by omega) Q k x29 hk hx29 S x S1 h) (by exact hk) (by decide +kernel) (by decide +kernel) (by decide +kernel) (by decide +kernel) rfl (by (try simp only [ev_sum, ev_nv_cat]); first | done | rfl) ?_
            intro x31 s30 hx31
            show ev_w _ _ _ _ _ [.int (Int32.ofInt x31)] _ _ _ _
            refine ev_r_stat (pc := 140) (y := 29) (kind := 5) (mi := 210) (na := 1) (as := [.int (Int32.ofInt x31)]) (rest := []) (encc := ev_oI) (Q := ev_bl) (fun x S1 h => jt_210 d (by omega) Q x31 hx31 s30 x S1 h) (Or.inr (Or.inl rfl)) (by decide +kernel) (by decide +kernel) (by decide +kernel) (by decide +kernel) rfl (by (try simp only [ev_sum, ev_nv_cat]); first | done | rfl) ?_
            intro x33 s32 hx33
            replace hx33 := ev_bl_rng hx33
            show ev_w _ _ _ _ _ [.int (Int32.ofInt x33)] _ _ _ _
            refine ev_r_aload_n (pc := 143) (k := 0) (v := .ref k) trivial (by decide +kernel) (by rfl) ?_
            refine ev_r_iload_n (pc := 144) (k := 2) (v := Int32.ofInt a1) (by decide +kernel) (by rfl) ?_
            refine ev_r_virt (pc := 145) (y := 25) (mi := 151) (na := 1) (k := k) (as := [.int (Int32.ofInt a1)]) (rest := [.int (Int32.ofInt x33)]) (encc := ev_oI) (Q := ev_rng) (fun x S1 h => jt_151 d (by omega) Q k a1 hk ha1 s32 x S1 h) (by exact hk) (by decide +kernel) (by decide +kernel) (by decide +kernel) (by decide +kernel) rfl (by (try simp only [ev_sum, ev_nv_cat]); first | done | rfl) ?_
            intro x35 s34 hx35
            show ev_w _ _ _ _ _ [.int (Int32.ofInt x35), .int (Int32.ofInt x33)] _ _ _ _
            refine ev_r_stat (pc := 148) (y := 29) (kind := 5) (mi := 210) (na := 1) (as := [.int (Int32.ofInt x35)]) (rest := [.int (Int32.ofInt x33)]) (encc := ev_oI) (Q := ev_bl) (fun x S1 h => jt_210 d (by omega) Q x35 hx35 s34 x S1 h) (Or.inr (Or.inl rfl)) (by decide +kernel) (by decide +kernel) (by decide +kernel) (by decide +kernel) rfl (by (try simp only [ev_sum, ev_nv_cat]); first | done | rfl) ?_
            intro x37 s36 hx37
            replace hx37 := ev_bl_rng hx37
            show ev_w _ _ _ _ _ [.int (Int32.ofInt x37), .int (Int32.ofInt x33)] _ _ _ _
            refine ev_r_icmp (pc := 151) (q := .ne) (o := 7) (t := 158) (c := x33 ≠ x37) (by decide +kernel) (ev_k_ne hx33 hx37) (by decide +kernel) ?_ ?_
            · intro c38
              refine ev_r_iconst (pc := 158) (k := 0) (by decide +kernel) ?_
              exact ev_r_ireturn (pc := 159) (x := 0) (v := Int32.ofInt 0) (ty := .boolean) (by decide : ev_bl 0) (by decide +kernel) (by decide +kernel) (ev_ret_bl (by decide : ev_bl 0)) rfl
            · intro c38
              refine ev_r_iconst (pc := 154) (k := 1) (by decide +kernel) ?_
              refine ev_r_goto (pc := 155) (o := 4) (t := 159) (by decide +kernel) (by decide +kernel) ?_
              exact ev_r_ireturn (pc := 159) (x := 1) (v := Int32.ofInt 1) (ty := .boolean) (by decide : ev_bl 1) (by decide +kernel) (by decide +kernel) (ev_ret_bl (by decide : ev_bl 1)) rfl
def jb_129_7 (Q : Nat) (a0 : Int)  (K7 : Int → Int → ev_St → Option ((Int) × ev_St)) (x2 : Int) (x3 : Int) (s9 : ev_St) : Option ((Int) × ev_St) := if 19018 ≤ x3 then (some ((-1), s9)) else (ev_bd (jm_126 Q x2 s9) fun x12 s11 => if x12 = 0 then (some ((-1), s11)) else (ev_ck (x2 + 1) fun x14 => ev_if ((0 : Int) ≤ x14 ∧ x14 < (ev_aln 282 : Int)) (ev_b (s11.1 282 (Int.toNat x14)) fun x15 => if x15 ≠ a0 then (ev_if ((0 : Int) ≤ x2 ∧ x2 < (ev_aln 282 : Int)) (ev_b (s11.1 282 (Int.toNat x2)) fun x17 => ev_ck (x3 + 1) fun x18 => K7 x17 x18 s11)) else (some (x2, s11)))))
def jl_129_7 (Q : Nat) (a0 : Int)  : Nat → Int → Int → ev_St → Option ((Int) × ev_St)
  | 0 => fun _ _ _ => none
  | q + 1 => jb_129_7 Q a0  (jl_129_7 Q a0  q)
theorem jbt_129_7 (d : Nat) (hd : 2 ≤ d + 1) (Q : Nat) (a0 : Int) (ha0 : ev_rng a0)   (K7 : Int → Int → ev_St → Option ((Int) × ev_St)) (hK7 : ∀ (x2 : Int) (hx2 : ev_rng x2), ∀ (x3 : Int) (hx3 : ev_rng x3), ∀ (s9 : ev_St) (w4 : List (Nat × Value)), ev_lk w4 0 = some (.ref 281) → ev_lk w4 1 = some (.int (Int32.ofInt a0)) → ev_lk w4 2 = some (.int (Int32.ofInt x2)) → ev_lk w4 3 = some (.int (Int32.ofInt x3)) → ev_w none (ev_Mof 129) d 7 w4 [] s9 (K7 x2 x3 s9) ev_eI ev_rng) : ∀ (x2 : Int) (hx2 : ev_rng x2), ∀ (x3 : Int) (hx3 : ev_rng x3), ∀ (s9 : ev_St) (w4 : List (Nat × Value)), ev_lk w4 0 = some (.ref 281) → ev_lk w4 1 = some (.int (Int32.ofInt a0)) → ev_lk w4 2 = some (.int (Int32.ofInt x2)) → ev_lk w4 3 = some (.int (Int32.ofInt x3)) → ev_w none (ev_Mof 129) d 7 w4 [] s9 (jb_129_7 Q a0  K7 x2 x3 s9) ev_eI ev_rng := by
  intro x2 hx2 x3 hx3 s9 w4 e5 e6 e7 e8
  unfold jb_129_7
  refine ev_r_iload_n (pc := 7) (k := 3) (v := Int32.ofInt x3) (by decide +kernel) (by exact e8) ?_
  refine ev_r_sipush (pc := 8) (k := 19018) (by decide +kernel) (by decide +kernel) ?_
  refine ev_r_icmp (pc := 11) (q := .ge) (o := 38) (t := 49) (c := 19018 ≤ x3) (by decide +kernel) (ev_k_ge hx3 (by decide)) (by decide +kernel) ?_ ?_
  · intro c10
    refine ev_r_iconst (pc := 49) (k := -1) (by decide +kernel) ?_
    exact ev_r_ireturn (pc := 50) (x := (-1)) (v := Int32.ofInt ((-1))) (ty := .int) (by decide) (by decide +kernel) (by decide +kernel) rfl rfl
  · intro c10
    refine ev_r_aload_n (pc := 14) (k := 0) (v := .ref 281) trivial (by decide +kernel) (by exact e5) ?_
    refine ev_r_iload_n (pc := 15) (k := 2) (v := Int32.ofInt x2) (by decide +kernel) (by exact e7) ?_
    refine ev_r_virt (pc := 16) (y := 112) (mi := 126) (na := 1) (k := 281) (as := [.int (Int32.ofInt x2)]) (rest := []) (encc := ev_oI) (Q := ev_bl) (fun x S1 h => jt_126 d (by omega) Q x2 hx2 s9 x S1 h) (by exact ev_ob_281) (by decide +kernel) (by decide +kernel) (by decide +kernel) (by decide +kernel) rfl (by (try simp only [ev_sum, ev_nv_cat]); first | done | rfl) ?_
    intro x12 s11 hx12
    replace hx12 := ev_bl_rng hx12
    show ev_w _ _ _ _ _ [.int (Int32.ofInt x12)] _ _ _ _
    refine ev_r_if (pc := 19) (q := .eq) (o := 30) (t := 49) (c := x12 = 0) (by decide +kernel) (ev_k_eq hx12 ev_rng0) (by decide +kernel) ?_ ?_
    · intro c13
      refine ev_r_iconst (pc := 49) (k := -1) (by decide +kernel) ?_
      exact ev_r_ireturn (pc := 50) (x := (-1)) (v := Int32.ofInt ((-1))) (ty := .int) (by decide) (by decide +kernel) (by decide +kernel) rfl rfl
    · intro c13
      refine ev_r_aload_n (pc := 22) (k := 0) (v := .ref 281) trivial (by decide +kernel) (by exact e5) ?_
      refine ev_r_getC (pc := 23) (y := 14) (ci := 8) (f := 6) (fin := 1) (k' := 282) (by decide +kernel) (by decide +kernel) (by exact ev_ob_281) rfl rfl ?_
      refine ev_r_iload_n (pc := 26) (k := 2) (v := Int32.ofInt x2) (by decide +kernel) (by exact e7) ?_
      refine ev_r_iconst (pc := 27) (k := 1) (by decide +kernel) ?_
      refine ev_r_iadd (pc := 28) (by decide +kernel) ?_
      intro x14 hx14
      refine ev_r_iald (pc := 29) hx14 (by decide +kernel) (by exact ev_ab_282) ?_
      intro x15 hx15
      refine ev_r_iload_n (pc := 30) (k := 1) (v := Int32.ofInt a0) (by decide +kernel) (by exact e6) ?_
      refine ev_r_icmp (pc := 31) (q := .ne) (o := 5) (t := 36) (c := x15 ≠ a0) (by decide +kernel) (ev_k_ne hx15 ha0) (by decide +kernel) ?_ ?_
      · intro c16
        refine ev_r_aload_n (pc := 36) (k := 0) (v := .ref 281) trivial (by decide +kernel) (by exact e5) ?_
        refine ev_r_getC (pc := 37) (y := 14) (ci := 8) (f := 6) (fin := 1) (k' := 282) (by decide +kernel) (by decide +kernel) (by exact ev_ob_281) rfl rfl ?_
        refine ev_r_iload_n (pc := 40) (k := 2) (v := Int32.ofInt x2) (by decide +kernel) (by exact e7) ?_
        refine ev_r_iald (pc := 41) hx2 (by decide +kernel) (by exact ev_ab_282) ?_
        intro x17 hx17
        refine ev_r_istore_n (pc := 42) (k := 2) (by decide +kernel) (by decide +kernel) rfl ?_
        refine ev_r_iinc (pc := 43) (k := 3) (c := 1) (x := x3) (by decide +kernel) (by decide +kernel) (by exact (ev_l1 e8 (by decide) (by decide))) (fun _ => rfl) ?_
        intro x18 hx18
        refine ev_r_goto (pc := 46) (o := (-39)) (t := 7) (by decide +kernel) (by decide +kernel) ?_
        exact hK7 x17 hx17 x18 hx18 s11 _ (by exact (ev_l1 (ev_l1 e5 (by decide) (by decide)) (by decide) (by decide))) (by exact (ev_l1 (ev_lk_st1 e6 (by decide) rfl) (by decide) (by decide))) (by exact (ev_lk_st1 ev_lk_st1_self (by decide) rfl)) (by exact ev_lk_st1_self)
      · intro c16
        refine ev_r_iload_n (pc := 34) (k := 2) (v := Int32.ofInt x2) (by decide +kernel) (by exact e7) ?_
        exact ev_r_ireturn (pc := 35) (x := x2) (v := Int32.ofInt x2) (ty := .int) hx2 (by decide +kernel) (by decide +kernel) rfl rfl
theorem jlt_129_7 (d : Nat) (hd : 2 ≤ d + 1) (Q : Nat) (a0 : Int) (ha0 : ev_rng a0)   : ∀ q : Nat, ∀ (x2 : Int) (hx2 : ev_rng x2), ∀ (x3 : Int) (hx3 : ev_rng x3), ∀ (s9 : ev_St) (w4 : List (Nat × Value)), ev_lk w4 0 = some (.ref 281) → ev_lk w4 1 = some (.int (Int32.ofInt a0)) → ev_lk w4 2 = some (.int (Int32.ofInt x2)) → ev_lk w4 3 = some (.int (Int32.ofInt x3)) → ev_w none (ev_Mof 129) d 7 w4 [] s9 (jl_129_7 Q a0  q x2 x3 s9) ev_eI ev_rng := by
  intro q
  induction q with
  | zero =>
    intro x2 hx2 x3 hx3 s9 w4 e5 e6 e7 e8
    exact ev_w_none
  | succ q ih => exact jbt_129_7 d hd Q a0 ha0   _ ih
/-- MendBench$Search.recordOf(I)I -/
def jm_129 (Q : Nat) (a0 : Int) (S : ev_St) : Option ((Int) × ev_St) := ev_b (S.1 281 5) fun x1 => jl_129_7 Q a0  Q x1 0 S
theorem jt_129 (d : Nat) (hd : 2 ≤ d) (Q : Nat) (a0 : Int) (ha0 : ev_rng a0) (S : ev_St) (x : Int) (S' : ev_St) (hJ : jm_129 Q a0 S = some (x, S')) : ev_Ref d 129 [.ref 281, .int (Int32.ofInt a0)] S (ev_eI x) S' (ev_rng x) := by
  obtain ⟨d, rfl⟩ : ∃ e, d = e + 1 := ⟨d - 1, by omega⟩
  refine ev_ref_of (P := ev_rng) (lv := [(0, .ref 281), (1, .int (Int32.ofInt a0))]) (by decide +kernel) (by (try simp only [ev_sum, ev_nv_cat]); first | done | rfl) (by (try simp only [lv_args, ev_nv_cat]); first | done | rfl) ?_ x S' hJ
  unfold jm_129
  refine ev_r_aload_n (pc := 0) (k := 0) (v := .ref 281) trivial (by decide +kernel) (by rfl) ?_
  refine ev_r_getI (pc := 1) (y := 76) (ci := 8) (f := 5) (fin := 0) (by decide +kernel) (by decide +kernel) (by exact ev_ob_281) rfl ?_
  intro x1 hx1
  refine ev_r_istore_n (pc := 4) (k := 2) (by decide +kernel) (by decide +kernel) rfl ?_
  refine ev_r_iconst (pc := 5) (k := 0) (by decide +kernel) ?_
  refine ev_r_istore_n (pc := 6) (k := 3) (by decide +kernel) (by decide +kernel) rfl ?_
  exact jlt_129_7 d hd Q a0 ha0   Q x1 hx1 0 (by decide) S _ (by exact (ev_l1 (ev_l1 (by rfl) (by decide) (by decide)) (by decide) (by decide))) (by exact (ev_l1 (ev_lk_st1 (by rfl) (by decide) rfl) (by decide) (by decide))) (by exact (ev_lk_st1 ev_lk_st1_self (by decide) rfl)) (by exact ev_lk_st1_self)
/-- MendBench.lowered(I)I -/
def jm_212 (Q : Nat) (a0 : Int) (S : ev_St) : Option ((Int) × ev_St) := if a0 < 65 then (some (a0, S)) else (if 90 < a0 then (some (a0, S)) else (ev_ck (a0 + 32) fun x3 => some (x3, S)))
theorem jt_212 (d : Nat) (hd : 1 ≤ d) (Q : Nat) (a0 : Int) (ha0 : ev_rng a0) (S : ev_St) (x : Int) (S' : ev_St) (hJ : jm_212 Q a0 S = some (x, S')) : ev_Ref d 212 [.int (Int32.ofInt a0)] S (ev_eI x) S' (ev_rng x) := by
  obtain ⟨d, rfl⟩ : ∃ e, d = e + 1 := ⟨d - 1, by omega⟩
  refine ev_ref_of (P := ev_rng) (lv := [(0, .int (Int32.ofInt a0))]) (by decide +kernel) (by (try simp only [ev_sum, ev_nv_cat]); first | done | rfl) (by (try simp only [lv_args, ev_nv_cat]); first | done | rfl) ?_ x S' hJ
  unfold jm_212
  refine ev_r_iload_n (pc := 0) (k := 0) (v := Int32.ofInt a0) (by decide +kernel) (by rfl) ?_
  refine ev_r_bipush (pc := 1) (k := 65) (by decide +kernel) (by decide +kernel) ?_
  refine ev_r_icmp (pc := 3) (q := .lt) (o := 16) (t := 19) (c := a0 < 65) (by decide +kernel) (ev_k_lt ha0 (by decide)) (by decide +kernel) ?_ ?_
  · intro c1
    refine ev_r_iload_n (pc := 19) (k := 0) (v := Int32.ofInt a0) (by decide +kernel) (by rfl) ?_
    exact ev_r_ireturn (pc := 20) (x := a0) (v := Int32.ofInt a0) (ty := .int) ha0 (by decide +kernel) (by decide +kernel) rfl rfl
  · intro c1
    refine ev_r_iload_n (pc := 6) (k := 0) (v := Int32.ofInt a0) (by decide +kernel) (by rfl) ?_
    refine ev_r_bipush (pc := 7) (k := 90) (by decide +kernel) (by decide +kernel) ?_
    refine ev_r_icmp (pc := 9) (q := .gt) (o := 10) (t := 19) (c := 90 < a0) (by decide +kernel) (ev_k_gt ha0 (by decide)) (by decide +kernel) ?_ ?_
    · intro c2
      refine ev_r_iload_n (pc := 19) (k := 0) (v := Int32.ofInt a0) (by decide +kernel) (by rfl) ?_
      exact ev_r_ireturn (pc := 20) (x := a0) (v := Int32.ofInt a0) (ty := .int) ha0 (by decide +kernel) (by decide +kernel) rfl rfl
    · intro c2
      refine ev_r_iload_n (pc := 12) (k := 0) (v := Int32.ofInt a0) (by decide +kernel) (by rfl) ?_
      refine ev_r_bipush (pc := 13) (k := 32) (by decide +kernel) (by decide +kernel) ?_
      refine ev_r_iadd (pc := 15) (by decide +kernel) ?_
      intro x3 hx3
      refine ev_r_goto (pc := 16) (o := 4) (t := 20) (by decide +kernel) (by decide +kernel) ?_
      exact ev_r_ireturn (pc := 20) (x := x3) (v := Int32.ofInt x3) (ty := .int) hx3 (by decide +kernel) (by decide +kernel) rfl rfl
def jb_137_63 (Q : Nat) (a0 : Int) (x15 : Int) (x16 : Int)  (K63 : Int → Int → ev_St → Option ((Int) × ev_St)) (x24 : Int) (x25 : Int) (s33 : ev_St) : Option ((Int) × ev_St) := if x16 ≤ x25 then (ev_b (s33.1 281 3) fun x35 => ev_ck (x35 + x16) fun x36 => ev_b (ev_pI s33 281 3 x36) fun s37 => ev_b (s37.2.2.1 281 0) fun r38 => ev_if (r38 ≠ 0) (ev_if ((0 : Int) ≤ a0 ∧ a0 < (ev_aln (((r38 - 1) + 7)) : Int)) (ev_b (s37.1 (((r38 - 1) + 7)) (Int.toNat a0)) fun x40 => ev_b (ev_pI s37 281 2 x40) fun s41 => some (1, s41)))) else (ev_b (s33.2.2.1 281 1) fun r42 => ev_ck (x15 + x25) fun x43 => ev_if (r42 ≠ 0) (ev_bd (jm_151 Q ((r42 - 1)) x43 s33) fun x46 s45 => ev_b (s45.2.2.1 281 1) fun r47 => ev_b (s45.1 281 3) fun x48 => ev_ck (x48 + x25) fun x49 => ev_if (r47 ≠ 0) (ev_bd (jm_151 Q ((r47 - 1)) x49 s45) fun x52 s51 => ev_jn (fun  (s60 : ev_St) => ev_ck (x25 + 1) fun x61 => K63 x24 x61 s60) fun K131 => if x46 = x52 then (K131  s51) else (if x24 = 0 then (some (0, s51)) else (if x52 < 0 then (some (0, s51)) else (ev_bd (jm_212 Q x46 s51) fun x66 s65 => ev_bd (jm_212 Q x52 s65) fun x68 s67 => if x66 = x68 then (K131  s67) else (some (0, s67))))))))
def jl_137_63 (Q : Nat) (a0 : Int) (x15 : Int) (x16 : Int)  : Nat → Int → Int → ev_St → Option ((Int) × ev_St)
  | 0 => fun _ _ _ => none
  | q + 1 => jb_137_63 Q a0 x15 x16  (jl_137_63 Q a0 x15 x16  q)
theorem jbt_137_63 (d : Nat) (hd : 3 ≤ d + 1) (Q : Nat) (a0 : Int) (x15 : Int) (x16 : Int) (ha0 : ev_rng a0) (hx15 : ev_rng x15) (hx16 : ev_rng x16)   (K63 : Int → Int → ev_St → Option ((Int) × ev_St)) (hK63 : ∀ (x24 : Int) (hx24 : ev_rng x24), ∀ (x25 : Int) (hx25 : ev_rng x25), ∀ (s33 : ev_St) (w26 : List (Nat × Value)), ev_lk w26 0 = some (.ref 281) → ev_lk w26 1 = some (.int (Int32.ofInt a0)) → ev_lk w26 3 = some (.int (Int32.ofInt x15)) → ev_lk w26 4 = some (.int (Int32.ofInt x16)) → ev_lk w26 5 = some (.int (Int32.ofInt x24)) → ev_lk w26 6 = some (.int (Int32.ofInt x25)) → ev_w none (ev_Mof 137) d 63 w26 [] s33 (K63 x24 x25 s33) ev_eI ev_bl) : ∀ (x24 : Int) (hx24 : ev_rng x24), ∀ (x25 : Int) (hx25 : ev_rng x25), ∀ (s33 : ev_St) (w26 : List (Nat × Value)), ev_lk w26 0 = some (.ref 281) → ev_lk w26 1 = some (.int (Int32.ofInt a0)) → ev_lk w26 3 = some (.int (Int32.ofInt x15)) → ev_lk w26 4 = some (.int (Int32.ofInt x16)) → ev_lk w26 5 = some (.int (Int32.ofInt x24)) → ev_lk w26 6 = some (.int (Int32.ofInt x25)) → ev_w none (ev_Mof 137) d 63 w26 [] s33 (jb_137_63 Q a0 x15 x16  K63 x24 x25 s33) ev_eI ev_bl := by
  intro x24 hx24 x25 hx25 s33 w26 e27 e28 e29 e30 e31 e32
  unfold jb_137_63
  refine ev_r_iload (pc := 63) (k := 6) (v := Int32.ofInt x25) (by decide +kernel) (by exact e32) ?_
  refine ev_r_iload (pc := 65) (k := 4) (v := Int32.ofInt x16) (by decide +kernel) (by exact e30) ?_
  refine ev_r_icmp (pc := 67) (q := .ge) (o := 70) (t := 137) (c := x16 ≤ x25) (by decide +kernel) (ev_k_ge hx25 hx16) (by decide +kernel) ?_ ?_
  · intro c34
    refine ev_r_aload_n (pc := 137) (k := 0) (v := .ref 281) trivial (by decide +kernel) (by exact e27) ?_
    refine ev_r_dup (pc := 138) rfl (by decide +kernel) ?_
    refine ev_r_getI (pc := 139) (y := 70) (ci := 8) (f := 3) (fin := 0) (by decide +kernel) (by decide +kernel) (by exact ev_ob_281) rfl ?_
    intro x35 hx35
    refine ev_r_iload (pc := 142) (k := 4) (v := Int32.ofInt x16) (by decide +kernel) (by exact e30) ?_
    refine ev_r_iadd (pc := 144) (by decide +kernel) ?_
    intro x36 hx36
    refine ev_r_putI (pc := 145) (y := 70) (ci := 8) (f := 3) hx36 (by decide +kernel) (by decide +kernel) (by exact ev_ob_281) rfl rfl ?_
    intro s37
    refine ev_r_aload_n (pc := 148) (k := 0) (v := .ref 281) trivial (by decide +kernel) (by exact e27) ?_
    refine ev_r_aload_n (pc := 149) (k := 0) (v := .ref 281) trivial (by decide +kernel) (by exact e27) ?_
    refine ev_r_getR (pc := 150) (y := 58) (ci := 8) (f := 0) (fin := 0) (t := 5) (by decide +kernel) (by decide +kernel) (by exact ev_ob_281) rfl rfl ?_
    intro r38 hr38
    have hr38 : r38 = 0 ∨ ev_isOb (r38 - 1) 5 = true := hr38
    refine ev_r_chk ?_
    intro c39
    refine ev_r_dr (r := r38) (fun v => [v, .ref 281]) c39 ?_
    refine ev_r_getC (pc := 153) (y := 139) (ci := 5) (f := 6) (fin := 2) (k' := ((r38 - 1) + 7)) (by decide +kernel) (by decide +kernel) (by exact (hr38.resolve_left c39)) rfl rfl ?_
    refine ev_r_iload_n (pc := 156) (k := 1) (v := Int32.ofInt a0) (by decide +kernel) (by exact e28) ?_
    refine ev_r_iald (pc := 157) ha0 (by decide +kernel) (by exact (ev_fo_5_6 (hr38.resolve_left c39))) ?_
    intro x40 hx40
    refine ev_r_putI (pc := 158) (y := 96) (ci := 8) (f := 2) hx40 (by decide +kernel) (by decide +kernel) (by exact ev_ob_281) rfl rfl ?_
    intro s41
    refine ev_r_iconst (pc := 161) (k := 1) (by decide +kernel) ?_
    exact ev_r_ireturn (pc := 162) (x := 1) (v := Int32.ofInt 1) (ty := .boolean) (by decide : ev_bl 1) (by decide +kernel) (by decide +kernel) (ev_ret_bl (by decide : ev_bl 1)) rfl
  · intro c34
    refine ev_r_aload_n (pc := 70) (k := 0) (v := .ref 281) trivial (by decide +kernel) (by exact e27) ?_
    refine ev_r_getR (pc := 71) (y := 27) (ci := 8) (f := 1) (fin := 0) (t := 10) (by decide +kernel) (by decide +kernel) (by exact ev_ob_281) rfl rfl ?_
    intro r42 hr42
    have hr42 : r42 = 0 ∨ ev_isOb (r42 - 1) 10 = true := hr42
    refine ev_r_iload_n (pc := 74) (k := 3) (v := Int32.ofInt x15) (by decide +kernel) (by exact e29) ?_
    refine ev_r_iload (pc := 75) (k := 6) (v := Int32.ofInt x25) (by decide +kernel) (by exact e32) ?_
    refine ev_r_iadd (pc := 77) (by decide +kernel) ?_
    intro x43 hx43
    refine ev_r_chk ?_
    intro c44
    refine ev_r_dr (r := r42) (fun v => [.int (Int32.ofInt x43), v]) c44 ?_
    refine ev_r_virt (pc := 78) (y := 55) (mi := 151) (na := 1) (k := (r42 - 1)) (as := [.int (Int32.ofInt x43)]) (rest := []) (encc := ev_oI) (Q := ev_rng) (fun x S1 h => jt_151 d (by omega) Q ((r42 - 1)) x43 (hr42.resolve_left c44) hx43 s33 x S1 h) (by exact (hr42.resolve_left c44)) (by decide +kernel) (by decide +kernel) (by decide +kernel) (by decide +kernel) rfl (by (try simp only [ev_sum, ev_nv_cat]); first | done | rfl) ?_
    intro x46 s45 hx46
    show ev_w _ _ _ _ _ [.int (Int32.ofInt x46)] _ _ _ _
    refine ev_r_istore (pc := 81) (k := 7) (by decide +kernel) (by decide +kernel) rfl ?_
    refine ev_r_aload_n (pc := 83) (k := 0) (v := .ref 281) trivial (by decide +kernel) (by exact (ev_l1 e27 (by decide) (by decide))) ?_
    refine ev_r_getR (pc := 84) (y := 27) (ci := 8) (f := 1) (fin := 0) (t := 10) (by decide +kernel) (by decide +kernel) (by exact ev_ob_281) rfl rfl ?_
    intro r47 hr47
    have hr47 : r47 = 0 ∨ ev_isOb (r47 - 1) 10 = true := hr47
    refine ev_r_aload_n (pc := 87) (k := 0) (v := .ref 281) trivial (by decide +kernel) (by exact (ev_l1 e27 (by decide) (by decide))) ?_
    refine ev_r_getI (pc := 88) (y := 70) (ci := 8) (f := 3) (fin := 0) (by decide +kernel) (by decide +kernel) (by exact ev_ob_281) rfl ?_
    intro x48 hx48
    refine ev_r_iload (pc := 91) (k := 6) (v := Int32.ofInt x25) (by decide +kernel) (by exact (ev_lk_st1 e32 (by decide) rfl)) ?_
    refine ev_r_iadd (pc := 93) (by decide +kernel) ?_
    intro x49 hx49
    refine ev_r_chk ?_
    intro c50
    refine ev_r_dr (r := r47) (fun v => [.int (Int32.ofInt x49), v]) c50 ?_
    refine ev_r_virt (pc := 94) (y := 55) (mi := 151) (na := 1) (k := (r47 - 1)) (as := [.int (Int32.ofInt x49)]) (rest := []) (encc := ev_oI) (Q := ev_rng) (fun x S1 h => jt_151 d (by omega) Q ((r47 - 1)) x49 (hr47.resolve_left c50) hx49 s45 x S1 h) (by exact (hr47.resolve_left c50)) (by decide +kernel) (by decide +kernel) (by decide +kernel) (by decide +kernel) rfl (by (try simp only [ev_sum, ev_nv_cat]); first | done | rfl) ?_
    intro x52 s51 hx52
    show ev_w _ _ _ _ _ [.int (Int32.ofInt x52)] _ _ _ _
    refine ev_r_istore (pc := 97) (k := 8) (by decide +kernel) (by decide +kernel) rfl ?_
    refine ev_r_iload (pc := 99) (k := 7) (v := Int32.ofInt x46) (by decide +kernel) (by exact (ev_lk_st1 ev_lk_st1_self (by decide) rfl)) ?_
    refine ev_r_iload (pc := 101) (k := 8) (v := Int32.ofInt x52) (by decide +kernel) (by exact ev_lk_st1_self) ?_
    refine ev_r_jn (Q := fun K => ∀ (s60 : ev_St) (w53 : List (Nat × Value)), ev_lk w53 0 = some (.ref 281) → ev_lk w53 1 = some (.int (Int32.ofInt a0)) → ev_lk w53 3 = some (.int (Int32.ofInt x15)) → ev_lk w53 4 = some (.int (Int32.ofInt x16)) → ev_lk w53 5 = some (.int (Int32.ofInt x24)) → ev_lk w53 6 = some (.int (Int32.ofInt x25)) → ev_w none (ev_Mof 137) d 131 w53 [] s60 (K  s60) ev_eI ev_bl) ?_ ?_
    · intro  s60 w53 e54 e55 e56 e57 e58 e59
      refine ev_r_iinc (pc := 131) (k := 6) (c := 1) (x := x25) (by decide +kernel) (by decide +kernel) (by exact e59) (fun _ => rfl) ?_
      intro x61 hx61
      refine ev_r_goto (pc := 134) (o := (-71)) (t := 63) (by decide +kernel) (by decide +kernel) ?_
      exact hK63 x24 hx24 x61 hx61 s60 _ (by exact (ev_l1 e54 (by decide) (by decide))) (by exact (ev_l1 e55 (by decide) (by decide))) (by exact (ev_l1 e56 (by decide) (by decide))) (by exact (ev_l1 e57 (by decide) (by decide))) (by exact (ev_lk_st1 e58 (by decide) rfl)) (by exact ev_lk_st1_self)
    · intro K131 hK131
      refine ev_r_icmp (pc := 103) (q := .eq) (o := 28) (t := 131) (c := x46 = x52) (by decide +kernel) (ev_k_eq hx46 hx52) (by decide +kernel) ?_ ?_
      · intro c62
        exact hK131  s51 _ (by exact (ev_l1 (ev_l1 e27 (by decide) (by decide)) (by decide) (by decide))) (by exact (ev_l1 (ev_l1 e28 (by decide) (by decide)) (by decide) (by decide))) (by exact (ev_l1 (ev_l1 e29 (by decide) (by decide)) (by decide) (by decide))) (by exact (ev_l1 (ev_l1 e30 (by decide) (by decide)) (by decide) (by decide))) (by exact (ev_l1 (ev_l1 e31 (by decide) (by decide)) (by decide) (by decide))) (by exact (ev_l1 (ev_lk_st1 e32 (by decide) rfl) (by decide) (by decide)))
      · intro c62
        refine ev_r_iload (pc := 106) (k := 5) (v := Int32.ofInt x24) (by decide +kernel) (by exact (ev_l1 (ev_l1 e31 (by decide) (by decide)) (by decide) (by decide))) ?_
        refine ev_r_if (pc := 108) (q := .eq) (o := 21) (t := 129) (c := x24 = 0) (by decide +kernel) (ev_k_eq hx24 ev_rng0) (by decide +kernel) ?_ ?_
        · intro c63
          refine ev_r_iconst (pc := 129) (k := 0) (by decide +kernel) ?_
          exact ev_r_ireturn (pc := 130) (x := 0) (v := Int32.ofInt 0) (ty := .boolean) (by decide : ev_bl 0) (by decide +kernel) (by decide +kernel) (ev_ret_bl (by decide : ev_bl 0)) rfl
        · intro c63
          refine ev_r_iload (pc := 111) (k := 8) (v := Int32.ofInt x52) (by decide +kernel) (by exact ev_lk_st1_self) ?_
          refine ev_r_if (pc := 113) (q := .lt) (o := 16) (t := 129) (c := x52 < 0) (by decide +kernel) (ev_k_lt hx52 ev_rng0) (by decide +kernel) ?_ ?_
          · intro c64
            refine ev_r_iconst (pc := 129) (k := 0) (by decide +kernel) ?_
            exact ev_r_ireturn (pc := 130) (x := 0) (v := Int32.ofInt 0) (ty := .boolean) (by decide : ev_bl 0) (by decide +kernel) (by decide +kernel) (ev_ret_bl (by decide : ev_bl 0)) rfl
          · intro c64
            refine ev_r_iload (pc := 116) (k := 7) (v := Int32.ofInt x46) (by decide +kernel) (by exact (ev_lk_st1 ev_lk_st1_self (by decide) rfl)) ?_
            refine ev_r_stat (pc := 118) (y := 190) (kind := 5) (mi := 212) (na := 1) (as := [.int (Int32.ofInt x46)]) (rest := []) (encc := ev_oI) (Q := ev_rng) (fun x S1 h => jt_212 d (by omega) Q x46 hx46 s51 x S1 h) (Or.inr (Or.inl rfl)) (by decide +kernel) (by decide +kernel) (by decide +kernel) (by decide +kernel) rfl (by (try simp only [ev_sum, ev_nv_cat]); first | done | rfl) ?_
            intro x66 s65 hx66
            show ev_w _ _ _ _ _ [.int (Int32.ofInt x66)] _ _ _ _
            refine ev_r_iload (pc := 121) (k := 8) (v := Int32.ofInt x52) (by decide +kernel) (by exact ev_lk_st1_self) ?_
            refine ev_r_stat (pc := 123) (y := 190) (kind := 5) (mi := 212) (na := 1) (as := [.int (Int32.ofInt x52)]) (rest := [.int (Int32.ofInt x66)]) (encc := ev_oI) (Q := ev_rng) (fun x S1 h => jt_212 d (by omega) Q x52 hx52 s65 x S1 h) (Or.inr (Or.inl rfl)) (by decide +kernel) (by decide +kernel) (by decide +kernel) (by decide +kernel) rfl (by (try simp only [ev_sum, ev_nv_cat]); first | done | rfl) ?_
            intro x68 s67 hx68
            show ev_w _ _ _ _ _ [.int (Int32.ofInt x68), .int (Int32.ofInt x66)] _ _ _ _
            refine ev_r_icmp (pc := 126) (q := .eq) (o := 5) (t := 131) (c := x66 = x68) (by decide +kernel) (ev_k_eq hx66 hx68) (by decide +kernel) ?_ ?_
            · intro c69
              exact hK131  s67 _ (by exact (ev_l1 (ev_l1 e27 (by decide) (by decide)) (by decide) (by decide))) (by exact (ev_l1 (ev_l1 e28 (by decide) (by decide)) (by decide) (by decide))) (by exact (ev_l1 (ev_l1 e29 (by decide) (by decide)) (by decide) (by decide))) (by exact (ev_l1 (ev_l1 e30 (by decide) (by decide)) (by decide) (by decide))) (by exact (ev_l1 (ev_l1 e31 (by decide) (by decide)) (by decide) (by decide))) (by exact (ev_l1 (ev_lk_st1 e32 (by decide) rfl) (by decide) (by decide)))
            · intro c69
              refine ev_r_iconst (pc := 129) (k := 0) (by decide +kernel) ?_
              exact ev_r_ireturn (pc := 130) (x := 0) (v := Int32.ofInt 0) (ty := .boolean) (by decide : ev_bl 0) (by decide +kernel) (by decide +kernel) (ev_ret_bl (by decide : ev_bl 0)) rfl
theorem jlt_137_63 (d : Nat) (hd : 3 ≤ d + 1) (Q : Nat) (a0 : Int) (x15 : Int) (x16 : Int) (ha0 : ev_rng a0) (hx15 : ev_rng x15) (hx16 : ev_rng x16)   : ∀ q : Nat, ∀ (x24 : Int) (hx24 : ev_rng x24), ∀ (x25 : Int) (hx25 : ev_rng x25), ∀ (s33 : ev_St) (w26 : List (Nat × Value)), ev_lk w26 0 = some (.ref 281) → ev_lk w26 1 = some (.int (Int32.ofInt a0)) → ev_lk w26 3 = some (.int (Int32.ofInt x15)) → ev_lk w26 4 = some (.int (Int32.ofInt x16)) → ev_lk w26 5 = some (.int (Int32.ofInt x24)) → ev_lk w26 6 = some (.int (Int32.ofInt x25)) → ev_w none (ev_Mof 137) d 63 w26 [] s33 (jl_137_63 Q a0 x15 x16  q x24 x25 s33) ev_eI ev_bl := by
  intro q
  induction q with
  | zero =>
    intro x24 hx24 x25 hx25 s33 w26 e27 e28 e29 e30 e31 e32
    exact ev_w_none
  | succ q ih => exact jbt_137_63 d hd Q a0 x15 x16 ha0 hx15 hx16   _ ih
/-- MendBench$Search.passGot(I)Z -/
def jm_137 (Q : Nat) (a0 : Int) (S : ev_St) : Option ((Int) × ev_St) := ev_b (S.2.2.1 281 0) fun r1 => ev_if (r1 ≠ 0) (ev_if ((0 : Int) ≤ a0 ∧ a0 < (ev_aln (((r1 - 1) + 2)) : Int)) (ev_b (S.1 (((r1 - 1) + 2)) (Int.toNat a0)) fun x3 => ev_bd (jm_129 Q x3 S) fun x5 s4 => if 0 ≤ x5 then (ev_ck (x5 + 2) fun x7 => ev_if ((0 : Int) ≤ x7 ∧ x7 < (ev_aln 282 : Int)) (ev_b (s4.1 282 (Int.toNat x7)) fun x8 => ev_ck (x5 + 3) fun x9 => ev_if ((0 : Int) ≤ x9 ∧ x9 < (ev_aln 282 : Int)) (ev_b (s4.1 282 (Int.toNat x9)) fun x10 => ev_ck (x10 - x8) fun x11 => ev_b (s4.2.2.1 281 0) fun r12 => ev_if (r12 ≠ 0) (ev_if ((0 : Int) ≤ a0 ∧ a0 < (ev_aln (((r12 - 1) + 3)) : Int)) (ev_b (s4.1 (((r12 - 1) + 3)) (Int.toNat a0)) fun x14 => ev_jn (fun (x15 : Int) (x16 : Int) (x17 : Int) (s23 : ev_St) => jl_137_63 Q a0 x15 x16  Q x17 0 s23) fun K58 => if x14 = 0 then (K58 x8 x11 0 s4) else (K58 x8 x11 1 s4)))))) else (some (0, s4))))
theorem jt_137 (d : Nat) (hd : 3 ≤ d) (Q : Nat) (a0 : Int) (ha0 : ev_rng a0) (S : ev_St) (x : Int) (S' : ev_St) (hJ : jm_137 Q a0 S = some (x, S')) : ev_Ref d 137 [.ref 281, .int (Int32.ofInt a0)] S (ev_eI x) S' (ev_bl x) := by
  obtain ⟨d, rfl⟩ : ∃ e, d = e + 1 := ⟨d - 1, by omega⟩
  refine ev_ref_of (P := ev_bl) (lv := [(0, .ref 281), (1, .int (Int32.ofInt a0))]) (by decide +kernel) (by (try simp only [ev_sum, ev_nv_cat]); first | done | rfl) (by (try simp only [lv_args, ev_nv_cat]); first | done | rfl) ?_ x S' hJ
  unfold jm_137
  refine ev_r_aload_n (pc := 0) (k := 0) (v := .ref 281) trivial (by decide +kernel) (by rfl) ?_
  refine ev_r_aload_n (pc := 1) (k := 0) (v := .ref 281) trivial (by decide +kernel) (by rfl) ?_
  refine ev_r_getR (pc := 2) (y := 58) (ci := 8) (f := 0) (fin := 0) (t := 5) (by decide +kernel) (by decide +kernel) (by exact ev_ob_281) rfl rfl ?_
  intro r1 hr1
  have hr1 : r1 = 0 ∨ ev_isOb (r1 - 1) 5 = true := hr1
  refine ev_r_chk ?_
  intro c2
  refine ev_r_dr (r := r1) (fun v => [v, .ref 281]) c2 ?_
  refine ev_r_getC (pc := 5) (y := 184) (ci := 5) (f := 1) (fin := 2) (k' := ((r1 - 1) + 2)) (by decide +kernel) (by decide +kernel) (by exact (hr1.resolve_left c2)) rfl rfl ?_
  refine ev_r_iload_n (pc := 8) (k := 1) (v := Int32.ofInt a0) (by decide +kernel) (by rfl) ?_
  refine ev_r_iald (pc := 9) ha0 (by decide +kernel) (by exact (ev_fo_5_1 (hr1.resolve_left c2))) ?_
  intro x3 hx3
  refine ev_r_virt (pc := 10) (y := 52) (mi := 129) (na := 1) (k := 281) (as := [.int (Int32.ofInt x3)]) (rest := []) (encc := ev_oI) (Q := ev_rng) (fun x S1 h => jt_129 d (by omega) Q x3 hx3 S x S1 h) (by exact ev_ob_281) (by decide +kernel) (by decide +kernel) (by decide +kernel) (by decide +kernel) rfl (by (try simp only [ev_sum, ev_nv_cat]); first | done | rfl) ?_
  intro x5 s4 hx5
  show ev_w _ _ _ _ _ [.int (Int32.ofInt x5)] _ _ _ _
  refine ev_r_istore_n (pc := 13) (k := 2) (by decide +kernel) (by decide +kernel) rfl ?_
  refine ev_r_iload_n (pc := 14) (k := 2) (v := Int32.ofInt x5) (by decide +kernel) (by exact ev_lk_st1_self) ?_
  refine ev_r_if (pc := 15) (q := .ge) (o := 5) (t := 20) (c := 0 ≤ x5) (by decide +kernel) (ev_k_ge hx5 ev_rng0) (by decide +kernel) ?_ ?_
  · intro c6
    refine ev_r_aload_n (pc := 20) (k := 0) (v := .ref 281) trivial (by decide +kernel) (by exact (ev_l1 (by rfl) (by decide) (by decide))) ?_
    refine ev_r_getC (pc := 21) (y := 14) (ci := 8) (f := 6) (fin := 1) (k' := 282) (by decide +kernel) (by decide +kernel) (by exact ev_ob_281) rfl rfl ?_
    refine ev_r_iload_n (pc := 24) (k := 2) (v := Int32.ofInt x5) (by decide +kernel) (by exact ev_lk_st1_self) ?_
    refine ev_r_iconst (pc := 25) (k := 2) (by decide +kernel) ?_
    refine ev_r_iadd (pc := 26) (by decide +kernel) ?_
    intro x7 hx7
    refine ev_r_iald (pc := 27) hx7 (by decide +kernel) (by exact ev_ab_282) ?_
    intro x8 hx8
    refine ev_r_istore_n (pc := 28) (k := 3) (by decide +kernel) (by decide +kernel) rfl ?_
    refine ev_r_aload_n (pc := 29) (k := 0) (v := .ref 281) trivial (by decide +kernel) (by exact (ev_l1 (ev_l1 (by rfl) (by decide) (by decide)) (by decide) (by decide))) ?_
    refine ev_r_getC (pc := 30) (y := 14) (ci := 8) (f := 6) (fin := 1) (k' := 282) (by decide +kernel) (by decide +kernel) (by exact ev_ob_281) rfl rfl ?_
    refine ev_r_iload_n (pc := 33) (k := 2) (v := Int32.ofInt x5) (by decide +kernel) (by exact (ev_lk_st1 ev_lk_st1_self (by decide) rfl)) ?_
    refine ev_r_iconst (pc := 34) (k := 3) (by decide +kernel) ?_
    refine ev_r_iadd (pc := 35) (by decide +kernel) ?_
    intro x9 hx9
    refine ev_r_iald (pc := 36) hx9 (by decide +kernel) (by exact ev_ab_282) ?_
    intro x10 hx10
    refine ev_r_iload_n (pc := 37) (k := 3) (v := Int32.ofInt x8) (by decide +kernel) (by exact ev_lk_st1_self) ?_
    refine ev_r_isub (pc := 38) (by decide +kernel) ?_
    intro x11 hx11
    refine ev_r_istore (pc := 39) (k := 4) (by decide +kernel) (by decide +kernel) rfl ?_
    refine ev_r_aload_n (pc := 41) (k := 0) (v := .ref 281) trivial (by decide +kernel) (by exact (ev_l1 (ev_l1 (ev_l1 (by rfl) (by decide) (by decide)) (by decide) (by decide)) (by decide) (by decide))) ?_
    refine ev_r_getR (pc := 42) (y := 58) (ci := 8) (f := 0) (fin := 0) (t := 5) (by decide +kernel) (by decide +kernel) (by exact ev_ob_281) rfl rfl ?_
    intro r12 hr12
    have hr12 : r12 = 0 ∨ ev_isOb (r12 - 1) 5 = true := hr12
    refine ev_r_chk ?_
    intro c13
    refine ev_r_dr (r := r12) (fun v => [v]) c13 ?_
    refine ev_r_getC (pc := 45) (y := 187) (ci := 5) (f := 2) (fin := 2) (k' := ((r12 - 1) + 3)) (by decide +kernel) (by decide +kernel) (by exact (hr12.resolve_left c13)) rfl rfl ?_
    refine ev_r_iload_n (pc := 48) (k := 1) (v := Int32.ofInt a0) (by decide +kernel) (by exact (ev_l1 (ev_l1 (ev_lk_st1 (by rfl) (by decide) rfl) (by decide) (by decide)) (by decide) (by decide))) ?_
    refine ev_r_iald (pc := 49) ha0 (by decide +kernel) (by exact (ev_fo_5_2 (hr12.resolve_left c13))) ?_
    intro x14 hx14
    refine ev_r_jn (Q := fun K => ∀ (x15 : Int) (hx15 : ev_rng x15), ∀ (x16 : Int) (hx16 : ev_rng x16), ∀ (x17 : Int) (hx17 : ev_rng x17), ∀ (s23 : ev_St) (w18 : List (Nat × Value)), ev_lk w18 0 = some (.ref 281) → ev_lk w18 1 = some (.int (Int32.ofInt a0)) → ev_lk w18 3 = some (.int (Int32.ofInt x15)) → ev_lk w18 4 = some (.int (Int32.ofInt x16)) → ev_w none (ev_Mof 137) d 58 w18 [.int (Int32.ofInt x17)] s23 (K x15 x16 x17 s23) ev_eI ev_bl) ?_ ?_
    · intro x15 hx15 x16 hx16 x17 hx17 s23 w18 e19 e20 e21 e22
      refine ev_r_istore (pc := 58) (k := 5) (by decide +kernel) (by decide +kernel) rfl ?_
      refine ev_r_iconst (pc := 60) (k := 0) (by decide +kernel) ?_
      refine ev_r_istore (pc := 61) (k := 6) (by decide +kernel) (by decide +kernel) rfl ?_
      exact jlt_137_63 d hd Q a0 x15 x16 ha0 hx15 hx16   Q x17 hx17 0 (by decide) s23 _ (by exact (ev_l1 (ev_l1 e19 (by decide) (by decide)) (by decide) (by decide))) (by exact (ev_l1 (ev_l1 e20 (by decide) (by decide)) (by decide) (by decide))) (by exact (ev_l1 (ev_l1 e21 (by decide) (by decide)) (by decide) (by decide))) (by exact (ev_l1 (ev_lk_st1 e22 (by decide) rfl) (by decide) (by decide))) (by exact (ev_lk_st1 ev_lk_st1_self (by decide) rfl)) (by exact ev_lk_st1_self)
    · intro K58 hK58
      refine ev_r_if (pc := 50) (q := .eq) (o := 7) (t := 57) (c := x14 = 0) (by decide +kernel) (ev_k_eq hx14 ev_rng0) (by decide +kernel) ?_ ?_
      · intro c70
        refine ev_r_iconst (pc := 57) (k := 0) (by decide +kernel) ?_
        exact hK58 x8 hx8 x11 hx11 0 (by decide) s4 _ (by exact (ev_l1 (ev_l1 (ev_l1 (by rfl) (by decide) (by decide)) (by decide) (by decide)) (by decide) (by decide))) (by exact (ev_l1 (ev_l1 (ev_lk_st1 (by rfl) (by decide) rfl) (by decide) (by decide)) (by decide) (by decide))) (by exact (ev_lk_st1 ev_lk_st1_self (by decide) rfl)) (by exact ev_lk_st1_self)
      · intro c70
        refine ev_r_iconst (pc := 53) (k := 1) (by decide +kernel) ?_
        refine ev_r_goto (pc := 54) (o := 4) (t := 58) (by decide +kernel) (by decide +kernel) ?_
        exact hK58 x8 hx8 x11 hx11 1 (by decide) s4 _ (by exact (ev_l1 (ev_l1 (ev_l1 (by rfl) (by decide) (by decide)) (by decide) (by decide)) (by decide) (by decide))) (by exact (ev_l1 (ev_l1 (ev_lk_st1 (by rfl) (by decide) rfl) (by decide) (by decide)) (by decide) (by decide))) (by exact (ev_lk_st1 ev_lk_st1_self (by decide) rfl)) (by exact ev_lk_st1_self)
  · intro c6
    refine ev_r_iconst (pc := 18) (k := 0) (by decide +kernel) ?_
    exact ev_r_ireturn (pc := 19) (x := 0) (v := Int32.ofInt 0) (ty := .boolean) (by decide : ev_bl 0) (by decide +kernel) (by decide +kernel) (ev_ret_bl (by decide : ev_bl 0)) rfl
/-- MendBench$Search.choose(I)Z -/
def jm_138 (Q : Nat) (a0 : Int) (S : ev_St) : Option ((Int) × ev_St) := ev_b (S.2.2.1 281 0) fun r1 => ev_if (r1 ≠ 0) (ev_if ((0 : Int) ≤ a0 ∧ a0 < (ev_aln (((r1 - 1) + 4)) : Int)) (ev_b (S.1 (((r1 - 1) + 4)) (Int.toNat a0)) fun x3 => ev_b (S.2.2.1 281 0) fun r4 => ev_if (r4 ≠ 0) (ev_bd (jm_59 Q ((r4 - 1)) x3 S) fun x7 s6 => ev_jn (fun (x8 : Int) (s13 : ev_St) => ev_b (s13.2.2.1 281 0) fun r14 => ev_if (r14 ≠ 0) (ev_bd (jm_59 Q ((r14 - 1)) x8 s13) fun x17 s16 => if x17 = 0 then (ev_b (s16.2.2.1 281 0) fun r19 => ev_if (r19 ≠ 0) (ev_if ((0 : Int) ≤ a0 ∧ a0 < (ev_aln (((r19 - 1) + 7)) : Int)) (ev_b (s16.1 (((r19 - 1) + 7)) (Int.toNat a0)) fun x21 => ev_b (ev_pI s16 281 2 x21) fun s22 => some (1, s22)))) else (ev_b (s16.2.2.1 281 0) fun r23 => ev_if (r23 ≠ 0) (ev_if ((0 : Int) ≤ x8 ∧ x8 < (ev_aln (((r23 - 1) + 6)) : Int)) (ev_b (s16.1 (((r23 - 1) + 6)) (Int.toNat x8)) fun x25 => ev_b (ev_pI s16 281 2 x25) fun s26 => some (1, s26)))))) fun K47 => if x7 = 0 then (K47 x3 s6) else (ev_b (s6.2.2.1 281 0) fun r28 => ev_if (r28 ≠ 0) (ev_if ((0 : Int) ≤ a0 ∧ a0 < (ev_aln (((r28 - 1) + 2)) : Int)) (ev_b (s6.1 (((r28 - 1) + 2)) (Int.toNat a0)) fun x30 => ev_bd (jm_129 Q x30 s6) fun x32 s31 => if 0 ≤ x32 then (K47 x3 s31) else (ev_b (s31.2.2.1 281 0) fun r34 => ev_if (r34 ≠ 0) (ev_if ((0 : Int) ≤ x3 ∧ x3 < (ev_aln (((r34 - 1) + 5)) : Int)) (ev_b (s31.1 (((r34 - 1) + 5)) (Int.toNat x3)) fun x36 => K47 x36 s31)))))))))
theorem jt_138 (d : Nat) (hd : 3 ≤ d) (Q : Nat) (a0 : Int) (ha0 : ev_rng a0) (S : ev_St) (x : Int) (S' : ev_St) (hJ : jm_138 Q a0 S = some (x, S')) : ev_Ref d 138 [.ref 281, .int (Int32.ofInt a0)] S (ev_eI x) S' (ev_bl x) := by
  obtain ⟨d, rfl⟩ : ∃ e, d = e + 1 := ⟨d - 1, by omega⟩
  refine ev_ref_of (P := ev_bl) (lv := [(0, .ref 281), (1, .int (Int32.ofInt a0))]) (by decide +kernel) (by (try simp only [ev_sum, ev_nv_cat]); first | done | rfl) (by (try simp only [lv_args, ev_nv_cat]); first | done | rfl) ?_ x S' hJ
  unfold jm_138
  refine ev_r_aload_n (pc := 0) (k := 0) (v := .ref 281) trivial (by decide +kernel) (by rfl) ?_
  refine ev_r_getR (pc := 1) (y := 58) (ci := 8) (f := 0) (fin := 0) (t := 5) (by decide +kernel) (by decide +kernel) (by exact ev_ob_281) rfl rfl ?_
  intro r1 hr1
  have hr1 : r1 = 0 ∨ ev_isOb (r1 - 1) 5 = true := hr1
  refine ev_r_chk ?_
  intro c2
  refine ev_r_dr (r := r1) (fun v => [v]) c2 ?_
  refine ev_r_getC (pc := 4) (y := 193) (ci := 5) (f := 3) (fin := 2) (k' := ((r1 - 1) + 4)) (by decide +kernel) (by decide +kernel) (by exact (hr1.resolve_left c2)) rfl rfl ?_
  refine ev_r_iload_n (pc := 7) (k := 1) (v := Int32.ofInt a0) (by decide +kernel) (by rfl) ?_
  refine ev_r_iald (pc := 8) ha0 (by decide +kernel) (by exact (ev_fo_5_3 (hr1.resolve_left c2))) ?_
  intro x3 hx3
  refine ev_r_istore_n (pc := 9) (k := 2) (by decide +kernel) (by decide +kernel) rfl ?_
  refine ev_r_aload_n (pc := 10) (k := 0) (v := .ref 281) trivial (by decide +kernel) (by exact (ev_l1 (by rfl) (by decide) (by decide))) ?_
  refine ev_r_getR (pc := 11) (y := 58) (ci := 8) (f := 0) (fin := 0) (t := 5) (by decide +kernel) (by decide +kernel) (by exact ev_ob_281) rfl rfl ?_
  intro r4 hr4
  have hr4 : r4 = 0 ∨ ev_isOb (r4 - 1) 5 = true := hr4
  refine ev_r_iload_n (pc := 14) (k := 2) (v := Int32.ofInt x3) (by decide +kernel) (by exact ev_lk_st1_self) ?_
  refine ev_r_chk ?_
  intro c5
  refine ev_r_dr (r := r4) (fun v => [.int (Int32.ofInt x3), v]) c5 ?_
  refine ev_r_virt (pc := 15) (y := 89) (mi := 59) (na := 1) (k := (r4 - 1)) (as := [.int (Int32.ofInt x3)]) (rest := []) (encc := ev_oI) (Q := ev_bl) (fun x S1 h => jt_59 d (by omega) Q ((r4 - 1)) x3 (hr4.resolve_left c5) hx3 S x S1 h) (by exact (hr4.resolve_left c5)) (by decide +kernel) (by decide +kernel) (by decide +kernel) (by decide +kernel) rfl (by (try simp only [ev_sum, ev_nv_cat]); first | done | rfl) ?_
  intro x7 s6 hx7
  replace hx7 := ev_bl_rng hx7
  show ev_w _ _ _ _ _ [.int (Int32.ofInt x7)] _ _ _ _
  refine ev_r_jn (Q := fun K => ∀ (x8 : Int) (hx8 : ev_rng x8), ∀ (s13 : ev_St) (w9 : List (Nat × Value)), ev_lk w9 0 = some (.ref 281) → ev_lk w9 1 = some (.int (Int32.ofInt a0)) → ev_lk w9 2 = some (.int (Int32.ofInt x8)) → ev_w none (ev_Mof 138) d 47 w9 [] s13 (K x8 s13) ev_eI ev_bl) ?_ ?_
  · intro x8 hx8 s13 w9 e10 e11 e12
    refine ev_r_aload_n (pc := 47) (k := 0) (v := .ref 281) trivial (by decide +kernel) (by exact e10) ?_
    refine ev_r_aload_n (pc := 48) (k := 0) (v := .ref 281) trivial (by decide +kernel) (by exact e10) ?_
    refine ev_r_getR (pc := 49) (y := 58) (ci := 8) (f := 0) (fin := 0) (t := 5) (by decide +kernel) (by decide +kernel) (by exact ev_ob_281) rfl rfl ?_
    intro r14 hr14
    have hr14 : r14 = 0 ∨ ev_isOb (r14 - 1) 5 = true := hr14
    refine ev_r_iload_n (pc := 52) (k := 2) (v := Int32.ofInt x8) (by decide +kernel) (by exact e12) ?_
    refine ev_r_chk ?_
    intro c15
    refine ev_r_dr (r := r14) (fun v => [.int (Int32.ofInt x8), v, .ref 281]) c15 ?_
    refine ev_r_virt (pc := 53) (y := 89) (mi := 59) (na := 1) (k := (r14 - 1)) (as := [.int (Int32.ofInt x8)]) (rest := [.ref 281]) (encc := ev_oI) (Q := ev_bl) (fun x S1 h => jt_59 d (by omega) Q ((r14 - 1)) x8 (hr14.resolve_left c15) hx8 s13 x S1 h) (by exact (hr14.resolve_left c15)) (by decide +kernel) (by decide +kernel) (by decide +kernel) (by decide +kernel) rfl (by (try simp only [ev_sum, ev_nv_cat]); first | done | rfl) ?_
    intro x17 s16 hx17
    replace hx17 := ev_bl_rng hx17
    show ev_w _ _ _ _ _ [.int (Int32.ofInt x17), .ref 281] _ _ _ _
    refine ev_r_if (pc := 56) (q := .eq) (o := 15) (t := 71) (c := x17 = 0) (by decide +kernel) (ev_k_eq hx17 ev_rng0) (by decide +kernel) ?_ ?_
    · intro c18
      refine ev_r_aload_n (pc := 71) (k := 0) (v := .ref 281) trivial (by decide +kernel) (by exact e10) ?_
      refine ev_r_getR (pc := 72) (y := 58) (ci := 8) (f := 0) (fin := 0) (t := 5) (by decide +kernel) (by decide +kernel) (by exact ev_ob_281) rfl rfl ?_
      intro r19 hr19
      have hr19 : r19 = 0 ∨ ev_isOb (r19 - 1) 5 = true := hr19
      refine ev_r_chk ?_
      intro c20
      refine ev_r_dr (r := r19) (fun v => [v, .ref 281]) c20 ?_
      refine ev_r_getC (pc := 75) (y := 139) (ci := 5) (f := 6) (fin := 2) (k' := ((r19 - 1) + 7)) (by decide +kernel) (by decide +kernel) (by exact (hr19.resolve_left c20)) rfl rfl ?_
      refine ev_r_iload_n (pc := 78) (k := 1) (v := Int32.ofInt a0) (by decide +kernel) (by exact e11) ?_
      refine ev_r_iald (pc := 79) ha0 (by decide +kernel) (by exact (ev_fo_5_6 (hr19.resolve_left c20))) ?_
      intro x21 hx21
      refine ev_r_putI (pc := 80) (y := 96) (ci := 8) (f := 2) hx21 (by decide +kernel) (by decide +kernel) (by exact ev_ob_281) rfl rfl ?_
      intro s22
      refine ev_r_iconst (pc := 83) (k := 1) (by decide +kernel) ?_
      exact ev_r_ireturn (pc := 84) (x := 1) (v := Int32.ofInt 1) (ty := .boolean) (by decide : ev_bl 1) (by decide +kernel) (by decide +kernel) (ev_ret_bl (by decide : ev_bl 1)) rfl
    · intro c18
      refine ev_r_aload_n (pc := 59) (k := 0) (v := .ref 281) trivial (by decide +kernel) (by exact e10) ?_
      refine ev_r_getR (pc := 60) (y := 58) (ci := 8) (f := 0) (fin := 0) (t := 5) (by decide +kernel) (by decide +kernel) (by exact ev_ob_281) rfl rfl ?_
      intro r23 hr23
      have hr23 : r23 = 0 ∨ ev_isOb (r23 - 1) 5 = true := hr23
      refine ev_r_chk ?_
      intro c24
      refine ev_r_dr (r := r23) (fun v => [v, .ref 281]) c24 ?_
      refine ev_r_getC (pc := 63) (y := 93) (ci := 5) (f := 5) (fin := 2) (k' := ((r23 - 1) + 6)) (by decide +kernel) (by decide +kernel) (by exact (hr23.resolve_left c24)) rfl rfl ?_
      refine ev_r_iload_n (pc := 66) (k := 2) (v := Int32.ofInt x8) (by decide +kernel) (by exact e12) ?_
      refine ev_r_iald (pc := 67) hx8 (by decide +kernel) (by exact (ev_fo_5_5 (hr23.resolve_left c24))) ?_
      intro x25 hx25
      refine ev_r_goto (pc := 68) (o := 12) (t := 80) (by decide +kernel) (by decide +kernel) ?_
      refine ev_r_putI (pc := 80) (y := 96) (ci := 8) (f := 2) hx25 (by decide +kernel) (by decide +kernel) (by exact ev_ob_281) rfl rfl ?_
      intro s26
      refine ev_r_iconst (pc := 83) (k := 1) (by decide +kernel) ?_
      exact ev_r_ireturn (pc := 84) (x := 1) (v := Int32.ofInt 1) (ty := .boolean) (by decide : ev_bl 1) (by decide +kernel) (by decide +kernel) (ev_ret_bl (by decide : ev_bl 1)) rfl
  · intro K47 hK47
    refine ev_r_if (pc := 18) (q := .eq) (o := 29) (t := 47) (c := x7 = 0) (by decide +kernel) (ev_k_eq hx7 ev_rng0) (by decide +kernel) ?_ ?_
    · intro c27
      exact hK47 x3 hx3 s6 _ (by exact (ev_l1 (by rfl) (by decide) (by decide))) (by exact (ev_lk_st1 (by rfl) (by decide) rfl)) (by exact ev_lk_st1_self)
    · intro c27
      refine ev_r_aload_n (pc := 21) (k := 0) (v := .ref 281) trivial (by decide +kernel) (by exact (ev_l1 (by rfl) (by decide) (by decide))) ?_
      refine ev_r_aload_n (pc := 22) (k := 0) (v := .ref 281) trivial (by decide +kernel) (by exact (ev_l1 (by rfl) (by decide) (by decide))) ?_
      refine ev_r_getR (pc := 23) (y := 58) (ci := 8) (f := 0) (fin := 0) (t := 5) (by decide +kernel) (by decide +kernel) (by exact ev_ob_281) rfl rfl ?_
      intro r28 hr28
      have hr28 : r28 = 0 ∨ ev_isOb (r28 - 1) 5 = true := hr28
      refine ev_r_chk ?_
      intro c29
      refine ev_r_dr (r := r28) (fun v => [v, .ref 281]) c29 ?_
      refine ev_r_getC (pc := 26) (y := 184) (ci := 5) (f := 1) (fin := 2) (k' := ((r28 - 1) + 2)) (by decide +kernel) (by decide +kernel) (by exact (hr28.resolve_left c29)) rfl rfl ?_
      refine ev_r_iload_n (pc := 29) (k := 1) (v := Int32.ofInt a0) (by decide +kernel) (by exact (ev_lk_st1 (by rfl) (by decide) rfl)) ?_
      refine ev_r_iald (pc := 30) ha0 (by decide +kernel) (by exact (ev_fo_5_1 (hr28.resolve_left c29))) ?_
      intro x30 hx30
      refine ev_r_virt (pc := 31) (y := 52) (mi := 129) (na := 1) (k := 281) (as := [.int (Int32.ofInt x30)]) (rest := []) (encc := ev_oI) (Q := ev_rng) (fun x S1 h => jt_129 d (by omega) Q x30 hx30 s6 x S1 h) (by exact ev_ob_281) (by decide +kernel) (by decide +kernel) (by decide +kernel) (by decide +kernel) rfl (by (try simp only [ev_sum, ev_nv_cat]); first | done | rfl) ?_
      intro x32 s31 hx32
      show ev_w _ _ _ _ _ [.int (Int32.ofInt x32)] _ _ _ _
      refine ev_r_if (pc := 34) (q := .ge) (o := 13) (t := 47) (c := 0 ≤ x32) (by decide +kernel) (ev_k_ge hx32 ev_rng0) (by decide +kernel) ?_ ?_
      · intro c33
        exact hK47 x3 hx3 s31 _ (by exact (ev_l1 (by rfl) (by decide) (by decide))) (by exact (ev_lk_st1 (by rfl) (by decide) rfl)) (by exact ev_lk_st1_self)
      · intro c33
        refine ev_r_aload_n (pc := 37) (k := 0) (v := .ref 281) trivial (by decide +kernel) (by exact (ev_l1 (by rfl) (by decide) (by decide))) ?_
        refine ev_r_getR (pc := 38) (y := 58) (ci := 8) (f := 0) (fin := 0) (t := 5) (by decide +kernel) (by decide +kernel) (by exact ev_ob_281) rfl rfl ?_
        intro r34 hr34
        have hr34 : r34 = 0 ∨ ev_isOb (r34 - 1) 5 = true := hr34
        refine ev_r_chk ?_
        intro c35
        refine ev_r_dr (r := r34) (fun v => [v]) c35 ?_
        refine ev_r_getC (pc := 41) (y := 178) (ci := 5) (f := 4) (fin := 2) (k' := ((r34 - 1) + 5)) (by decide +kernel) (by decide +kernel) (by exact (hr34.resolve_left c35)) rfl rfl ?_
        refine ev_r_iload_n (pc := 44) (k := 2) (v := Int32.ofInt x3) (by decide +kernel) (by exact ev_lk_st1_self) ?_
        refine ev_r_iald (pc := 45) hx3 (by decide +kernel) (by exact (ev_fo_5_4 (hr34.resolve_left c35))) ?_
        intro x36 hx36
        refine ev_r_istore_n (pc := 46) (k := 2) (by decide +kernel) (by decide +kernel) rfl ?_
        exact hK47 x36 hx36 s31 _ (by exact (ev_l1 (ev_l1 (by rfl) (by decide) (by decide)) (by decide) (by decide))) (by exact (ev_lk_st1 (ev_lk_st1 (by rfl) (by decide) rfl) (by decide) rfl)) (by exact ev_lk_st1_self)
/-- MendBench$Search.callsAround()I -/
def jm_127 (Q : Nat)  (S : ev_St) : Option ((Int) × ev_St) := ev_b (S.1 281 4) fun x1 => ev_bd (jm_126 Q x1 S) fun x3 s2 => if x3 = 0 then (some (0, s2)) else (ev_b (s2.1 281 4) fun x5 => ev_ck (x5 + 1) fun x6 => ev_if ((0 : Int) ≤ x6 ∧ x6 < (ev_aln 282 : Int)) (ev_b (s2.1 282 (Int.toNat x6)) fun x7 => ev_if (8 ≠ 0) (ev_b (ev_idiv x7 8) fun x8 => ev_if (32 ≠ 0) (ev_b (ev_irem x8 32) fun x9 => some (x9, s2)))))
theorem jt_127 (d : Nat) (hd : 2 ≤ d) (Q : Nat)   (S : ev_St) (x : Int) (S' : ev_St) (hJ : jm_127 Q  S = some (x, S')) : ev_Ref d 127 [.ref 281] S (ev_eI x) S' (ev_rng x) := by
  obtain ⟨d, rfl⟩ : ∃ e, d = e + 1 := ⟨d - 1, by omega⟩
  refine ev_ref_of (P := ev_rng) (lv := [(0, .ref 281)]) (by decide +kernel) (by (try simp only [ev_sum, ev_nv_cat]); first | done | rfl) (by (try simp only [lv_args, ev_nv_cat]); first | done | rfl) ?_ x S' hJ
  unfold jm_127
  refine ev_r_aload_n (pc := 0) (k := 0) (v := .ref 281) trivial (by decide +kernel) (by rfl) ?_
  refine ev_r_aload_n (pc := 1) (k := 0) (v := .ref 281) trivial (by decide +kernel) (by rfl) ?_
  refine ev_r_getI (pc := 2) (y := 73) (ci := 8) (f := 4) (fin := 0) (by decide +kernel) (by decide +kernel) (by exact ev_ob_281) rfl ?_
  intro x1 hx1
  refine ev_r_virt (pc := 5) (y := 112) (mi := 126) (na := 1) (k := 281) (as := [.int (Int32.ofInt x1)]) (rest := []) (encc := ev_oI) (Q := ev_bl) (fun x S1 h => jt_126 d (by omega) Q x1 hx1 S x S1 h) (by exact ev_ob_281) (by decide +kernel) (by decide +kernel) (by decide +kernel) (by decide +kernel) rfl (by (try simp only [ev_sum, ev_nv_cat]); first | done | rfl) ?_
  intro x3 s2 hx3
  replace hx3 := ev_bl_rng hx3
  show ev_w _ _ _ _ _ [.int (Int32.ofInt x3)] _ _ _ _
  refine ev_r_if (pc := 8) (q := .eq) (o := 23) (t := 31) (c := x3 = 0) (by decide +kernel) (ev_k_eq hx3 ev_rng0) (by decide +kernel) ?_ ?_
  · intro c4
    refine ev_r_iconst (pc := 31) (k := 0) (by decide +kernel) ?_
    exact ev_r_ireturn (pc := 32) (x := 0) (v := Int32.ofInt 0) (ty := .int) (by decide) (by decide +kernel) (by decide +kernel) rfl rfl
  · intro c4
    refine ev_r_aload_n (pc := 11) (k := 0) (v := .ref 281) trivial (by decide +kernel) (by rfl) ?_
    refine ev_r_getC (pc := 12) (y := 14) (ci := 8) (f := 6) (fin := 1) (k' := 282) (by decide +kernel) (by decide +kernel) (by exact ev_ob_281) rfl rfl ?_
    refine ev_r_aload_n (pc := 15) (k := 0) (v := .ref 281) trivial (by decide +kernel) (by rfl) ?_
    refine ev_r_getI (pc := 16) (y := 73) (ci := 8) (f := 4) (fin := 0) (by decide +kernel) (by decide +kernel) (by exact ev_ob_281) rfl ?_
    intro x5 hx5
    refine ev_r_iconst (pc := 19) (k := 1) (by decide +kernel) ?_
    refine ev_r_iadd (pc := 20) (by decide +kernel) ?_
    intro x6 hx6
    refine ev_r_iald (pc := 21) hx6 (by decide +kernel) (by exact ev_ab_282) ?_
    intro x7 hx7
    refine ev_r_bipush (pc := 22) (k := 8) (by decide +kernel) (by decide +kernel) ?_
    refine ev_r_idiv (pc := 24) (by decide) (by decide +kernel) ?_
    intro x8 hx8
    refine ev_r_bipush (pc := 25) (k := 32) (by decide +kernel) (by decide +kernel) ?_
    refine ev_r_irem (pc := 27) (by decide) (by decide +kernel) ?_
    intro x9 hx9
    refine ev_r_goto (pc := 28) (o := 4) (t := 32) (by decide +kernel) (by decide +kernel) ?_
    exact ev_r_ireturn (pc := 32) (x := x9) (v := Int32.ofInt x9) (ty := .int) hx9 (by decide +kernel) (by decide +kernel) rfl rfl
