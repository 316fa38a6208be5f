/-! METHODS as functions, laid by decomp.py -/
theorem ev_ab_639 : ev_isAb 639 1 .int = true := (by decide +kernel)
theorem ev_ab_658 : ev_isAb 658 1 .boolean = true := (by decide +kernel)
theorem ev_ab_660 : ev_isAb 660 1 .int = true := (by decide +kernel)
theorem ev_ab_661 : ev_isAb 661 1 .int = true := (by decide +kernel)
theorem ev_ab_659 : ev_isAb 659 1 .int = true := (by decide +kernel)
theorem ev_ab_707 : ev_isAb 707 1 .int = true := (by decide +kernel)
theorem ev_ab_678 : ev_isAb 678 1 .int = true := (by decide +kernel)
theorem ev_ab_708 : ev_isAb 708 1 .int = true := (by decide +kernel)
theorem ev_ab_681 : ev_isAb 681 1 .int = true := (by decide +kernel)
theorem ev_ab_682 : ev_isAb 682 1 .int = true := (by decide +kernel)
theorem ev_ab_683 : ev_isAb 683 1 .int = true := (by decide +kernel)
theorem ev_ab_684 : ev_isAb 684 1 .int = true := (by decide +kernel)
theorem ev_ab_685 : ev_isAb 685 1 .int = true := (by decide +kernel)
theorem ev_ab_686 : ev_isAb 686 1 .int = true := (by decide +kernel)
def jb_270_245 (Q : Nat) (a0 : Int)  (K245 : Int → ev_St → Option ((Unit) × ev_St)) (x23 : Int) (s28 : ev_St) : Option ((Unit) × ev_St) := if 26 ≤ x23 then (ev_bd (jm_268 Q a0 s28) fun _ s30 => ev_bd (jm_269 Q a0 s30) fun x32 s31 => ev_if ((0 : Int) ≤ a0 ∧ a0 < (ev_aln 639 : Int)) (ev_b (ev_pI s31 639 (Int.toNat a0) x32) fun s33 => ev_if ((0 : Int) ≤ a0 ∧ a0 < (ev_aln 639 : Int)) (ev_b (s33.1 639 (Int.toNat a0)) fun x34 => if x34 ≤ 0 then (some ((), s33)) else (ev_bd (jm_313 Q a0 s33) fun _ s36 => some ((), s36))))) else (ev_ck (26 * a0) fun x37 => ev_ck (x37 + x23) fun x38 => ev_ck (312 + x23) fun x39 => ev_if ((0 : Int) ≤ x39 ∧ x39 < (ev_aln 638 : Int)) (ev_b (s28.1 638 (Int.toNat x39)) fun x40 => ev_if ((0 : Int) ≤ x38 ∧ x38 < (ev_aln 638 : Int)) (ev_b (ev_pI s28 638 (Int.toNat x38) x40) fun s41 => ev_ck (x23 + 1) fun x42 => K245 x42 s41)))
def jl_270_245 (Q : Nat) (a0 : Int)  : Nat → Int → ev_St → Option ((Unit) × ev_St)
  | 0 => fun _ _ => none
  | q + 1 => jb_270_245 Q a0  (jl_270_245 Q a0  q)
theorem jbt_270_245 (d : Nat) (hd : 4 ≤ d + 1) (Q : Nat) (a0 : Int) (ha0 : ev_rng a0)   (K245 : Int → ev_St → Option ((Unit) × ev_St)) (hK245 : ∀ (x23 : Int) (hx23 : ev_rng x23), ∀ (s28 : ev_St) (w24 : List (Nat × Value)), ev_lk w24 0 = some (.ref 621) → ev_lk w24 1 = some (.int (Int32.ofInt a0)) → ev_lk w24 3 = some (.int (Int32.ofInt x23)) → ev_w none (ev_Mof 270) d 245 w24 [] s28 (K245 x23 s28) ev_eU ev_PU) : ∀ (x23 : Int) (hx23 : ev_rng x23), ∀ (s28 : ev_St) (w24 : List (Nat × Value)), ev_lk w24 0 = some (.ref 621) → ev_lk w24 1 = some (.int (Int32.ofInt a0)) → ev_lk w24 3 = some (.int (Int32.ofInt x23)) → ev_w none (ev_Mof 270) d 245 w24 [] s28 (jb_270_245 Q a0  K245 x23 s28) ev_eU ev_PU := by
  intro x23 hx23 s28 w24 e25 e26 e27
  unfold jb_270_245
  refine ev_r_iload_n (pc := 245) (k := 3) (v := Int32.ofInt x23) (by decide +kernel) (by exact e27) ?_
  refine ev_r_bipush (pc := 246) (k := 26) (by decide +kernel) (by decide +kernel) ?_
  refine ev_r_icmp (pc := 248) (q := .ge) (o := 30) (t := 278) (c := 26 ≤ x23) (by decide +kernel) (ev_k_ge hx23 (by decide)) (by decide +kernel) ?_ ?_
  · intro c29
    refine ev_r_aload_n (pc := 278) (k := 0) (v := .ref 621) trivial (by decide +kernel) (by exact e25) ?_
    refine ev_r_iload_n (pc := 279) (k := 1) (v := Int32.ofInt a0) (by decide +kernel) (by exact e26) ?_
    refine ev_r_virt (pc := 280) (y := 513) (mi := 268) (na := 1) (k := 621) (as := [.int (Int32.ofInt a0)]) (rest := []) (encc := ev_oU) (Q := ev_PU) (fun x S1 h => jt_268 d (by omega) Q a0 ha0 s28 x S1 h) (by exact ev_ob_621) (by decide +kernel) (by decide +kernel) (by decide +kernel) (by decide +kernel) rfl (by (try simp only [ev_sum, ev_nv_cat]); first | done | rfl) ?_
    intro _ s30 _
    show ev_w _ _ _ _ _ [] _ _ _ _
    refine ev_r_aload_n (pc := 283) (k := 0) (v := .ref 621) trivial (by decide +kernel) (by exact e25) ?_
    refine ev_r_getC (pc := 284) (y := 62) (ci := 13) (f := 20) (fin := 1) (k' := 639) (by decide +kernel) (by decide +kernel) (by exact ev_ob_621) rfl rfl ?_
    refine ev_r_iload_n (pc := 287) (k := 1) (v := Int32.ofInt a0) (by decide +kernel) (by exact e26) ?_
    refine ev_r_aload_n (pc := 288) (k := 0) (v := .ref 621) trivial (by decide +kernel) (by exact e25) ?_
    refine ev_r_iload_n (pc := 289) (k := 1) (v := Int32.ofInt a0) (by decide +kernel) (by exact e26) ?_
    refine ev_r_virt (pc := 290) (y := 516) (mi := 269) (na := 1) (k := 621) (as := [.int (Int32.ofInt a0)]) (rest := [.int (Int32.ofInt a0), .ref 639]) (encc := ev_oI) (Q := ev_rng) (fun x S1 h => jt_269 d (by omega) Q a0 ha0 s30 x S1 h) (by exact ev_ob_621) (by decide +kernel) (by decide +kernel) (by decide +kernel) (by decide +kernel) rfl (by (try simp only [ev_sum, ev_nv_cat]); first | done | rfl) ?_
    intro x32 s31 hx32
    show ev_w _ _ _ _ _ [.int (Int32.ofInt x32), .int (Int32.ofInt a0), .ref 639] _ _ _ _
    refine ev_r_iast (pc := 293) hx32 ha0 (by decide +kernel) (by exact ev_ab_639) ?_
    intro s33
    refine ev_r_aload_n (pc := 294) (k := 0) (v := .ref 621) trivial (by decide +kernel) (by exact e25) ?_
    refine ev_r_getC (pc := 295) (y := 62) (ci := 13) (f := 20) (fin := 1) (k' := 639) (by decide +kernel) (by decide +kernel) (by exact ev_ob_621) rfl rfl ?_
    refine ev_r_iload_n (pc := 298) (k := 1) (v := Int32.ofInt a0) (by decide +kernel) (by exact e26) ?_
    refine ev_r_iald (pc := 299) ha0 (by decide +kernel) (by exact ev_ab_639) ?_
    intro x34 hx34
    refine ev_r_if (pc := 300) (q := .le) (o := 8) (t := 308) (c := x34 ≤ 0) (by decide +kernel) (ev_k_le hx34 ev_rng0) (by decide +kernel) ?_ ?_
    · intro c35
      exact ev_r_return (pc := 308) (x := ()) trivial (by decide +kernel) (by decide +kernel) rfl
    · intro c35
      refine ev_r_aload_n (pc := 303) (k := 0) (v := .ref 621) trivial (by decide +kernel) (by exact e25) ?_
      refine ev_r_iload_n (pc := 304) (k := 1) (v := Int32.ofInt a0) (by decide +kernel) (by exact e26) ?_
      refine ev_r_virt (pc := 305) (y := 519) (mi := 313) (na := 1) (k := 621) (as := [.int (Int32.ofInt a0)]) (rest := []) (encc := ev_oU) (Q := ev_PU) (fun x S1 h => jt_313 d (by omega) Q a0 ha0 s33 x S1 h) (by exact ev_ob_621) (by decide +kernel) (by decide +kernel) (by decide +kernel) (by decide +kernel) rfl (by (try simp only [ev_sum, ev_nv_cat]); first | done | rfl) ?_
      intro _ s36 _
      show ev_w _ _ _ _ _ [] _ _ _ _
      exact ev_r_return (pc := 308) (x := ()) trivial (by decide +kernel) (by decide +kernel) rfl
  · intro c29
    refine ev_r_aload_n (pc := 251) (k := 0) (v := .ref 621) trivial (by decide +kernel) (by exact e25) ?_
    refine ev_r_getC (pc := 252) (y := 59) (ci := 13) (f := 19) (fin := 1) (k' := 638) (by decide +kernel) (by decide +kernel) (by exact ev_ob_621) rfl rfl ?_
    refine ev_r_bipush (pc := 255) (k := 26) (by decide +kernel) (by decide +kernel) ?_
    refine ev_r_iload_n (pc := 257) (k := 1) (v := Int32.ofInt a0) (by decide +kernel) (by exact e26) ?_
    refine ev_r_imul (pc := 258) (by decide +kernel) ?_
    intro x37 hx37
    refine ev_r_iload_n (pc := 259) (k := 3) (v := Int32.ofInt x23) (by decide +kernel) (by exact e27) ?_
    refine ev_r_iadd (pc := 260) (by decide +kernel) ?_
    intro x38 hx38
    refine ev_r_aload_n (pc := 261) (k := 0) (v := .ref 621) trivial (by decide +kernel) (by exact e25) ?_
    refine ev_r_getC (pc := 262) (y := 59) (ci := 13) (f := 19) (fin := 1) (k' := 638) (by decide +kernel) (by decide +kernel) (by exact ev_ob_621) rfl rfl ?_
    refine ev_r_sipush (pc := 265) (k := 312) (by decide +kernel) (by decide +kernel) ?_
    refine ev_r_iload_n (pc := 268) (k := 3) (v := Int32.ofInt x23) (by decide +kernel) (by exact e27) ?_
    refine ev_r_iadd (pc := 269) (by decide +kernel) ?_
    intro x39 hx39
    refine ev_r_iald (pc := 270) hx39 (by decide +kernel) (by exact ev_ab_638) ?_
    intro x40 hx40
    refine ev_r_iast (pc := 271) hx40 hx38 (by decide +kernel) (by exact ev_ab_638) ?_
    intro s41
    refine ev_r_iinc (pc := 272) (k := 3) (c := 1) (x := x23) (by decide +kernel) (by decide +kernel) (by exact e27) (fun _ => rfl) ?_
    intro x42 hx42
    refine ev_r_goto (pc := 275) (o := (-30)) (t := 245) (by decide +kernel) (by decide +kernel) ?_
    exact hK245 x42 hx42 s41 _ (by exact (ev_l1 e25 (by decide) (by decide))) (by exact (ev_l1 e26 (by decide) (by decide))) (by exact ev_lk_st1_self)
theorem jlt_270_245 (d : Nat) (hd : 4 ≤ d + 1) (Q : Nat) (a0 : Int) (ha0 : ev_rng a0)   : ∀ q : Nat, ∀ (x23 : Int) (hx23 : ev_rng x23), ∀ (s28 : ev_St) (w24 : List (Nat × Value)), ev_lk w24 0 = some (.ref 621) → ev_lk w24 1 = some (.int (Int32.ofInt a0)) → ev_lk w24 3 = some (.int (Int32.ofInt x23)) → ev_w none (ev_Mof 270) d 245 w24 [] s28 (jl_270_245 Q a0  q x23 s28) ev_eU ev_PU := by
  intro q
  induction q with
  | zero =>
    intro x23 hx23 s28 w24 e25 e26 e27
    exact ev_w_none
  | succ q ih => exact jbt_270_245 d hd Q a0 ha0   _ ih
def jb_270_211 (Q : Nat) (a0 : Int)  (K211 : Int → ev_St → Option ((Unit) × ev_St)) (x16 : Int) (s21 : ev_St) : Option ((Unit) × ev_St) := if 10 ≤ x16 then (jl_270_245 Q a0  Q 0 s21) else (ev_ck (10 * a0) fun x43 => ev_ck (x43 + x16) fun x44 => ev_ck (120 + x16) fun x45 => ev_if ((0 : Int) ≤ x45 ∧ x45 < (ev_aln 637 : Int)) (ev_b (s21.1 637 (Int.toNat x45)) fun x46 => ev_if ((0 : Int) ≤ x44 ∧ x44 < (ev_aln 637 : Int)) (ev_b (ev_pI s21 637 (Int.toNat x44) x46) fun s47 => ev_ck (x16 + 1) fun x48 => K211 x48 s47)))
def jl_270_211 (Q : Nat) (a0 : Int)  : Nat → Int → ev_St → Option ((Unit) × ev_St)
  | 0 => fun _ _ => none
  | q + 1 => jb_270_211 Q a0  (jl_270_211 Q a0  q)
theorem jbt_270_211 (d : Nat) (hd : 4 ≤ d + 1) (Q : Nat) (a0 : Int) (ha0 : ev_rng a0)   (K211 : Int → ev_St → Option ((Unit) × ev_St)) (hK211 : ∀ (x16 : Int) (hx16 : ev_rng x16), ∀ (s21 : ev_St) (w17 : List (Nat × Value)), ev_lk w17 0 = some (.ref 621) → ev_lk w17 1 = some (.int (Int32.ofInt a0)) → ev_lk w17 3 = some (.int (Int32.ofInt x16)) → ev_w none (ev_Mof 270) d 211 w17 [] s21 (K211 x16 s21) ev_eU ev_PU) : ∀ (x16 : Int) (hx16 : ev_rng x16), ∀ (s21 : ev_St) (w17 : List (Nat × Value)), ev_lk w17 0 = some (.ref 621) → ev_lk w17 1 = some (.int (Int32.ofInt a0)) → ev_lk w17 3 = some (.int (Int32.ofInt x16)) → ev_w none (ev_Mof 270) d 211 w17 [] s21 (jb_270_211 Q a0  K211 x16 s21) ev_eU ev_PU := by
  intro x16 hx16 s21 w17 e18 e19 e20
  unfold jb_270_211
  refine ev_r_iload_n (pc := 211) (k := 3) (v := Int32.ofInt x16) (by decide +kernel) (by exact e20) ?_
  refine ev_r_bipush (pc := 212) (k := 10) (by decide +kernel) (by decide +kernel) ?_
  refine ev_r_icmp (pc := 214) (q := .ge) (o := 29) (t := 243) (c := 10 ≤ x16) (by decide +kernel) (ev_k_ge hx16 (by decide)) (by decide +kernel) ?_ ?_
  · intro c22
    refine ev_r_iconst (pc := 243) (k := 0) (by decide +kernel) ?_
    refine ev_r_istore_n (pc := 244) (k := 3) (by decide +kernel) (by decide +kernel) rfl ?_
    exact jlt_270_245 d hd Q a0 ha0   Q 0 (by decide) s21 _ (by exact (ev_l1 e18 (by decide) (by decide))) (by exact (ev_l1 e19 (by decide) (by decide))) (by exact ev_lk_st1_self)
  · intro c22
    refine ev_r_aload_n (pc := 217) (k := 0) (v := .ref 621) trivial (by decide +kernel) (by exact e18) ?_
    refine ev_r_getC (pc := 218) (y := 56) (ci := 13) (f := 18) (fin := 1) (k' := 637) (by decide +kernel) (by decide +kernel) (by exact ev_ob_621) rfl rfl ?_
    refine ev_r_bipush (pc := 221) (k := 10) (by decide +kernel) (by decide +kernel) ?_
    refine ev_r_iload_n (pc := 223) (k := 1) (v := Int32.ofInt a0) (by decide +kernel) (by exact e19) ?_
    refine ev_r_imul (pc := 224) (by decide +kernel) ?_
    intro x43 hx43
    refine ev_r_iload_n (pc := 225) (k := 3) (v := Int32.ofInt x16) (by decide +kernel) (by exact e20) ?_
    refine ev_r_iadd (pc := 226) (by decide +kernel) ?_
    intro x44 hx44
    refine ev_r_aload_n (pc := 227) (k := 0) (v := .ref 621) trivial (by decide +kernel) (by exact e18) ?_
    refine ev_r_getC (pc := 228) (y := 56) (ci := 13) (f := 18) (fin := 1) (k' := 637) (by decide +kernel) (by decide +kernel) (by exact ev_ob_621) rfl rfl ?_
    refine ev_r_bipush (pc := 231) (k := 120) (by decide +kernel) (by decide +kernel) ?_
    refine ev_r_iload_n (pc := 233) (k := 3) (v := Int32.ofInt x16) (by decide +kernel) (by exact e20) ?_
    refine ev_r_iadd (pc := 234) (by decide +kernel) ?_
    intro x45 hx45
    refine ev_r_iald (pc := 235) hx45 (by decide +kernel) (by exact ev_ab_637) ?_
    intro x46 hx46
    refine ev_r_iast (pc := 236) hx46 hx44 (by decide +kernel) (by exact ev_ab_637) ?_
    intro s47
    refine ev_r_iinc (pc := 237) (k := 3) (c := 1) (x := x16) (by decide +kernel) (by decide +kernel) (by exact e20) (fun _ => rfl) ?_
    intro x48 hx48
    refine ev_r_goto (pc := 240) (o := (-29)) (t := 211) (by decide +kernel) (by decide +kernel) ?_
    exact hK211 x48 hx48 s47 _ (by exact (ev_l1 e18 (by decide) (by decide))) (by exact (ev_l1 e19 (by decide) (by decide))) (by exact ev_lk_st1_self)
theorem jlt_270_211 (d : Nat) (hd : 4 ≤ d + 1) (Q : Nat) (a0 : Int) (ha0 : ev_rng a0)   : ∀ q : Nat, ∀ (x16 : Int) (hx16 : ev_rng x16), ∀ (s21 : ev_St) (w17 : List (Nat × Value)), ev_lk w17 0 = some (.ref 621) → ev_lk w17 1 = some (.int (Int32.ofInt a0)) → ev_lk w17 3 = some (.int (Int32.ofInt x16)) → ev_w none (ev_Mof 270) d 211 w17 [] s21 (jl_270_211 Q a0  q x16 s21) ev_eU ev_PU := by
  intro q
  induction q with
  | zero =>
    intro x16 hx16 s21 w17 e18 e19 e20
    exact ev_w_none
  | succ q ih => exact jbt_270_211 d hd Q a0 ha0   _ ih
def jb_270_8 (Q : Nat) (a0 : Int)  (K8 : Int → Int → ev_St → Option ((Unit) × ev_St)) (x2 : Int) (x3 : Int) (s9 : ev_St) : Option ((Unit) × ev_St) := ev_if ((0 : Int) ≤ 12 ∧ 12 < (ev_aln 635 : Int)) (ev_b (s9.1 635 (Int.toNat 12)) fun x10 => if x10 ≤ x3 then (ev_if ((0 : Int) ≤ 12 ∧ 12 < (ev_aln 635 : Int)) (ev_b (s9.1 635 (Int.toNat 12)) fun x12 => ev_if ((0 : Int) ≤ a0 ∧ a0 < (ev_aln 635 : Int)) (ev_b (ev_pI s9 635 (Int.toNat a0) x12) fun s13 => ev_if ((0 : Int) ≤ 12 ∧ 12 < (ev_aln 636 : Int)) (ev_b (s13.1 636 (Int.toNat 12)) fun x14 => ev_if ((0 : Int) ≤ a0 ∧ a0 < (ev_aln 636 : Int)) (ev_b (ev_pI s13 636 (Int.toNat a0) x14) fun s15 => jl_270_211 Q a0  Q 0 s15))))) else (ev_bd (jm_232 Q  s9) fun x50 s49 => ev_ck (x50 + x3) fun x51 => ev_ck (x2 + x3) fun x52 => ev_if ((0 : Int) ≤ x51 ∧ x51 < (ev_aln 625 : Int)) (ev_b (s49.1 625 (Int.toNat x51)) fun x53 => ev_if ((0 : Int) ≤ x52 ∧ x52 < (ev_aln 625 : Int)) (ev_b (ev_pI s49 625 (Int.toNat x52) x53) fun s54 => ev_ck (x2 + x3) fun x55 => ev_if ((0 : Int) ≤ x51 ∧ x51 < (ev_aln 626 : Int)) (ev_b (s54.1 626 (Int.toNat x51)) fun x56 => ev_if ((0 : Int) ≤ x55 ∧ x55 < (ev_aln 626 : Int)) (ev_b (ev_pI s54 626 (Int.toNat x55) x56) fun s57 => ev_ck (x2 + x3) fun x58 => ev_if ((0 : Int) ≤ x51 ∧ x51 < (ev_aln 627 : Int)) (ev_b (s57.1 627 (Int.toNat x51)) fun x59 => ev_if ((0 : Int) ≤ x58 ∧ x58 < (ev_aln 627 : Int)) (ev_b (ev_pI s57 627 (Int.toNat x58) x59) fun s60 => ev_ck (x2 + x3) fun x61 => ev_if ((0 : Int) ≤ x51 ∧ x51 < (ev_aln 628 : Int)) (ev_b (s60.1 628 (Int.toNat x51)) fun x62 => ev_if ((0 : Int) ≤ x61 ∧ x61 < (ev_aln 628 : Int)) (ev_b (ev_pI s60 628 (Int.toNat x61) x62) fun s63 => ev_ck (x2 + x3) fun x64 => ev_if ((0 : Int) ≤ x51 ∧ x51 < (ev_aln 629 : Int)) (ev_b (s63.1 629 (Int.toNat x51)) fun x65 => ev_if ((0 : Int) ≤ x64 ∧ x64 < (ev_aln 629 : Int)) (ev_b (ev_pI s63 629 (Int.toNat x64) x65) fun s66 => ev_ck (x2 + x3) fun x67 => ev_if ((0 : Int) ≤ x51 ∧ x51 < (ev_aln 630 : Int)) (ev_b (s66.1 630 (Int.toNat x51)) fun x68 => ev_if ((0 : Int) ≤ x67 ∧ x67 < (ev_aln 630 : Int)) (ev_b (ev_pI s66 630 (Int.toNat x67) x68) fun s69 => ev_ck (x2 + x3) fun x70 => ev_if ((0 : Int) ≤ x51 ∧ x51 < (ev_aln 631 : Int)) (ev_b (s69.1 631 (Int.toNat x51)) fun x71 => ev_if ((0 : Int) ≤ x70 ∧ x70 < (ev_aln 631 : Int)) (ev_b (ev_pI s69 631 (Int.toNat x70) x71) fun s72 => ev_ck (x2 + x3) fun x73 => ev_if ((0 : Int) ≤ x51 ∧ x51 < (ev_aln 632 : Int)) (ev_b (s72.1 632 (Int.toNat x51)) fun x74 => ev_if ((0 : Int) ≤ x73 ∧ x73 < (ev_aln 632 : Int)) (ev_b (ev_pI s72 632 (Int.toNat x73) x74) fun s75 => ev_ck (x2 + x3) fun x76 => ev_if ((0 : Int) ≤ x51 ∧ x51 < (ev_aln 633 : Int)) (ev_b (s75.2.1 633 (Int.toNat x51)) fun y77 => ev_if ((0 : Int) ≤ x76 ∧ x76 < (ev_aln 633 : Int)) (ev_b (ev_pL s75 633 (Int.toNat x76) y77) fun s78 => ev_ck (x2 + x3) fun x79 => ev_if ((0 : Int) ≤ x51 ∧ x51 < (ev_aln 634 : Int)) (ev_b (s78.2.1 634 (Int.toNat x51)) fun y80 => ev_if ((0 : Int) ≤ x79 ∧ x79 < (ev_aln 634 : Int)) (ev_b (ev_pL s78 634 (Int.toNat x79) y80) fun s81 => ev_ck (x3 + 1) fun x82 => K8 x2 x82 s81))))))))))))))))))))))
def jl_270_8 (Q : Nat) (a0 : Int)  : Nat → Int → Int → ev_St → Option ((Unit) × ev_St)
  | 0 => fun _ _ _ => none
  | q + 1 => jb_270_8 Q a0  (jl_270_8 Q a0  q)
theorem jbt_270_8 (d : Nat) (hd : 4 ≤ d + 1) (Q : Nat) (a0 : Int) (ha0 : ev_rng a0)   (K8 : Int → Int → ev_St → Option ((Unit) × ev_St)) (hK8 : ∀ (x2 : Int) (hx2 : ev_rng x2), ∀ (x3 : Int) (hx3 : ev_rng x3), ∀ (s9 : ev_St) (w4 : List (Nat × Value)), ev_lk w4 0 = some (.ref 621) → ev_lk w4 1 = some (.int (Int32.ofInt a0)) → ev_lk w4 2 = some (.int (Int32.ofInt x2)) → ev_lk w4 3 = some (.int (Int32.ofInt x3)) → ev_w none (ev_Mof 270) d 8 w4 [] s9 (K8 x2 x3 s9) ev_eU ev_PU) : ∀ (x2 : Int) (hx2 : ev_rng x2), ∀ (x3 : Int) (hx3 : ev_rng x3), ∀ (s9 : ev_St) (w4 : List (Nat × Value)), ev_lk w4 0 = some (.ref 621) → ev_lk w4 1 = some (.int (Int32.ofInt a0)) → ev_lk w4 2 = some (.int (Int32.ofInt x2)) → ev_lk w4 3 = some (.int (Int32.ofInt x3)) → ev_w none (ev_Mof 270) d 8 w4 [] s9 (jb_270_8 Q a0  K8 x2 x3 s9) ev_eU ev_PU := by
  intro x2 hx2 x3 hx3 s9 w4 e5 e6 e7 e8
  unfold jb_270_8
  refine ev_r_iload_n (pc := 8) (k := 3) (v := Int32.ofInt x3) (by decide +kernel) (by exact e8) ?_
  refine ev_r_aload_n (pc := 9) (k := 0) (v := .ref 621) trivial (by decide +kernel) (by exact e5) ?_
  refine ev_r_getC (pc := 10) (y := 50) (ci := 13) (f := 16) (fin := 1) (k' := 635) (by decide +kernel) (by decide +kernel) (by exact ev_ob_621) rfl rfl ?_
  refine ev_r_bipush (pc := 13) (k := 12) (by decide +kernel) (by decide +kernel) ?_
  refine ev_r_iald (pc := 15) (by decide) (by decide +kernel) (by exact ev_ab_635) ?_
  intro x10 hx10
  refine ev_r_icmp (pc := 16) (q := .ge) (o := 167) (t := 183) (c := x10 ≤ x3) (by decide +kernel) (ev_k_ge hx3 hx10) (by decide +kernel) ?_ ?_
  · intro c11
    refine ev_r_aload_n (pc := 183) (k := 0) (v := .ref 621) trivial (by decide +kernel) (by exact e5) ?_
    refine ev_r_getC (pc := 184) (y := 50) (ci := 13) (f := 16) (fin := 1) (k' := 635) (by decide +kernel) (by decide +kernel) (by exact ev_ob_621) rfl rfl ?_
    refine ev_r_iload_n (pc := 187) (k := 1) (v := Int32.ofInt a0) (by decide +kernel) (by exact e6) ?_
    refine ev_r_aload_n (pc := 188) (k := 0) (v := .ref 621) trivial (by decide +kernel) (by exact e5) ?_
    refine ev_r_getC (pc := 189) (y := 50) (ci := 13) (f := 16) (fin := 1) (k' := 635) (by decide +kernel) (by decide +kernel) (by exact ev_ob_621) rfl rfl ?_
    refine ev_r_bipush (pc := 192) (k := 12) (by decide +kernel) (by decide +kernel) ?_
    refine ev_r_iald (pc := 194) (by decide) (by decide +kernel) (by exact ev_ab_635) ?_
    intro x12 hx12
    refine ev_r_iast (pc := 195) hx12 ha0 (by decide +kernel) (by exact ev_ab_635) ?_
    intro s13
    refine ev_r_aload_n (pc := 196) (k := 0) (v := .ref 621) trivial (by decide +kernel) (by exact e5) ?_
    refine ev_r_getC (pc := 197) (y := 53) (ci := 13) (f := 17) (fin := 1) (k' := 636) (by decide +kernel) (by decide +kernel) (by exact ev_ob_621) rfl rfl ?_
    refine ev_r_iload_n (pc := 200) (k := 1) (v := Int32.ofInt a0) (by decide +kernel) (by exact e6) ?_
    refine ev_r_aload_n (pc := 201) (k := 0) (v := .ref 621) trivial (by decide +kernel) (by exact e5) ?_
    refine ev_r_getC (pc := 202) (y := 53) (ci := 13) (f := 17) (fin := 1) (k' := 636) (by decide +kernel) (by decide +kernel) (by exact ev_ob_621) rfl rfl ?_
    refine ev_r_bipush (pc := 205) (k := 12) (by decide +kernel) (by decide +kernel) ?_
    refine ev_r_iald (pc := 207) (by decide) (by decide +kernel) (by exact ev_ab_636) ?_
    intro x14 hx14
    refine ev_r_iast (pc := 208) hx14 ha0 (by decide +kernel) (by exact ev_ab_636) ?_
    intro s15
    refine ev_r_iconst (pc := 209) (k := 0) (by decide +kernel) ?_
    refine ev_r_istore_n (pc := 210) (k := 3) (by decide +kernel) (by decide +kernel) rfl ?_
    exact jlt_270_211 d hd Q a0 ha0   Q 0 (by decide) s15 _ (by exact (ev_l1 e5 (by decide) (by decide))) (by exact (ev_l1 e6 (by decide) (by decide))) (by exact ev_lk_st1_self)
  · intro c11
    refine ev_r_aload_n (pc := 19) (k := 0) (v := .ref 621) trivial (by decide +kernel) (by exact e5) ?_
    refine ev_r_virt (pc := 20) (y := 356) (mi := 232) (na := 0) (k := 621) (as := []) (rest := []) (encc := ev_oI) (Q := ev_rng) (fun x S1 h => jt_232 d (by omega) Q   s9 x S1 h) (by exact ev_ob_621) (by decide +kernel) (by decide +kernel) (by decide +kernel) (by decide +kernel) rfl (by (try simp only [ev_sum, ev_nv_cat]); first | done | rfl) ?_
    intro x50 s49 hx50
    show ev_w _ _ _ _ _ [.int (Int32.ofInt x50)] _ _ _ _
    refine ev_r_iload_n (pc := 23) (k := 3) (v := Int32.ofInt x3) (by decide +kernel) (by exact e8) ?_
    refine ev_r_iadd (pc := 24) (by decide +kernel) ?_
    intro x51 hx51
    refine ev_r_istore (pc := 25) (k := 4) (by decide +kernel) (by decide +kernel) rfl ?_
    refine ev_r_aload_n (pc := 27) (k := 0) (v := .ref 621) trivial (by decide +kernel) (by exact (ev_l1 e5 (by decide) (by decide))) ?_
    refine ev_r_getC (pc := 28) (y := 19) (ci := 13) (f := 6) (fin := 1) (k' := 625) (by decide +kernel) (by decide +kernel) (by exact ev_ob_621) rfl rfl ?_
    refine ev_r_iload_n (pc := 31) (k := 2) (v := Int32.ofInt x2) (by decide +kernel) (by exact (ev_l1 e7 (by decide) (by decide))) ?_
    refine ev_r_iload_n (pc := 32) (k := 3) (v := Int32.ofInt x3) (by decide +kernel) (by exact (ev_lk_st1 e8 (by decide) rfl)) ?_
    refine ev_r_iadd (pc := 33) (by decide +kernel) ?_
    intro x52 hx52
    refine ev_r_aload_n (pc := 34) (k := 0) (v := .ref 621) trivial (by decide +kernel) (by exact (ev_l1 e5 (by decide) (by decide))) ?_
    refine ev_r_getC (pc := 35) (y := 19) (ci := 13) (f := 6) (fin := 1) (k' := 625) (by decide +kernel) (by decide +kernel) (by exact ev_ob_621) rfl rfl ?_
    refine ev_r_iload (pc := 38) (k := 4) (v := Int32.ofInt x51) (by decide +kernel) (by exact ev_lk_st1_self) ?_
    refine ev_r_iald (pc := 40) hx51 (by decide +kernel) (by exact ev_ab_625) ?_
    intro x53 hx53
    refine ev_r_iast (pc := 41) hx53 hx52 (by decide +kernel) (by exact ev_ab_625) ?_
    intro s54
    refine ev_r_aload_n (pc := 42) (k := 0) (v := .ref 621) trivial (by decide +kernel) (by exact (ev_l1 e5 (by decide) (by decide))) ?_
    refine ev_r_getC (pc := 43) (y := 22) (ci := 13) (f := 7) (fin := 1) (k' := 626) (by decide +kernel) (by decide +kernel) (by exact ev_ob_621) rfl rfl ?_
    refine ev_r_iload_n (pc := 46) (k := 2) (v := Int32.ofInt x2) (by decide +kernel) (by exact (ev_l1 e7 (by decide) (by decide))) ?_
    refine ev_r_iload_n (pc := 47) (k := 3) (v := Int32.ofInt x3) (by decide +kernel) (by exact (ev_lk_st1 e8 (by decide) rfl)) ?_
    refine ev_r_iadd (pc := 48) (by decide +kernel) ?_
    intro x55 hx55
    refine ev_r_aload_n (pc := 49) (k := 0) (v := .ref 621) trivial (by decide +kernel) (by exact (ev_l1 e5 (by decide) (by decide))) ?_
    refine ev_r_getC (pc := 50) (y := 22) (ci := 13) (f := 7) (fin := 1) (k' := 626) (by decide +kernel) (by decide +kernel) (by exact ev_ob_621) rfl rfl ?_
    refine ev_r_iload (pc := 53) (k := 4) (v := Int32.ofInt x51) (by decide +kernel) (by exact ev_lk_st1_self) ?_
    refine ev_r_iald (pc := 55) hx51 (by decide +kernel) (by exact ev_ab_626) ?_
    intro x56 hx56
    refine ev_r_iast (pc := 56) hx56 hx55 (by decide +kernel) (by exact ev_ab_626) ?_
    intro s57
    refine ev_r_aload_n (pc := 57) (k := 0) (v := .ref 621) trivial (by decide +kernel) (by exact (ev_l1 e5 (by decide) (by decide))) ?_
    refine ev_r_getC (pc := 58) (y := 25) (ci := 13) (f := 8) (fin := 1) (k' := 627) (by decide +kernel) (by decide +kernel) (by exact ev_ob_621) rfl rfl ?_
    refine ev_r_iload_n (pc := 61) (k := 2) (v := Int32.ofInt x2) (by decide +kernel) (by exact (ev_l1 e7 (by decide) (by decide))) ?_
    refine ev_r_iload_n (pc := 62) (k := 3) (v := Int32.ofInt x3) (by decide +kernel) (by exact (ev_lk_st1 e8 (by decide) rfl)) ?_
    refine ev_r_iadd (pc := 63) (by decide +kernel) ?_
    intro x58 hx58
    refine ev_r_aload_n (pc := 64) (k := 0) (v := .ref 621) trivial (by decide +kernel) (by exact (ev_l1 e5 (by decide) (by decide))) ?_
    refine ev_r_getC (pc := 65) (y := 25) (ci := 13) (f := 8) (fin := 1) (k' := 627) (by decide +kernel) (by decide +kernel) (by exact ev_ob_621) rfl rfl ?_
    refine ev_r_iload (pc := 68) (k := 4) (v := Int32.ofInt x51) (by decide +kernel) (by exact ev_lk_st1_self) ?_
    refine ev_r_iald (pc := 70) hx51 (by decide +kernel) (by exact ev_ab_627) ?_
    intro x59 hx59
    refine ev_r_iast (pc := 71) hx59 hx58 (by decide +kernel) (by exact ev_ab_627) ?_
    intro s60
    refine ev_r_aload_n (pc := 72) (k := 0) (v := .ref 621) trivial (by decide +kernel) (by exact (ev_l1 e5 (by decide) (by decide))) ?_
    refine ev_r_getC (pc := 73) (y := 28) (ci := 13) (f := 9) (fin := 1) (k' := 628) (by decide +kernel) (by decide +kernel) (by exact ev_ob_621) rfl rfl ?_
    refine ev_r_iload_n (pc := 76) (k := 2) (v := Int32.ofInt x2) (by decide +kernel) (by exact (ev_l1 e7 (by decide) (by decide))) ?_
    refine ev_r_iload_n (pc := 77) (k := 3) (v := Int32.ofInt x3) (by decide +kernel) (by exact (ev_lk_st1 e8 (by decide) rfl)) ?_
    refine ev_r_iadd (pc := 78) (by decide +kernel) ?_
    intro x61 hx61
    refine ev_r_aload_n (pc := 79) (k := 0) (v := .ref 621) trivial (by decide +kernel) (by exact (ev_l1 e5 (by decide) (by decide))) ?_
    refine ev_r_getC (pc := 80) (y := 28) (ci := 13) (f := 9) (fin := 1) (k' := 628) (by decide +kernel) (by decide +kernel) (by exact ev_ob_621) rfl rfl ?_
    refine ev_r_iload (pc := 83) (k := 4) (v := Int32.ofInt x51) (by decide +kernel) (by exact ev_lk_st1_self) ?_
    refine ev_r_iald (pc := 85) hx51 (by decide +kernel) (by exact ev_ab_628) ?_
    intro x62 hx62
    refine ev_r_iast (pc := 86) hx62 hx61 (by decide +kernel) (by exact ev_ab_628) ?_
    intro s63
    refine ev_r_aload_n (pc := 87) (k := 0) (v := .ref 621) trivial (by decide +kernel) (by exact (ev_l1 e5 (by decide) (by decide))) ?_
    refine ev_r_getC (pc := 88) (y := 31) (ci := 13) (f := 10) (fin := 1) (k' := 629) (by decide +kernel) (by decide +kernel) (by exact ev_ob_621) rfl rfl ?_
    refine ev_r_iload_n (pc := 91) (k := 2) (v := Int32.ofInt x2) (by decide +kernel) (by exact (ev_l1 e7 (by decide) (by decide))) ?_
    refine ev_r_iload_n (pc := 92) (k := 3) (v := Int32.ofInt x3) (by decide +kernel) (by exact (ev_lk_st1 e8 (by decide) rfl)) ?_
    refine ev_r_iadd (pc := 93) (by decide +kernel) ?_
    intro x64 hx64
    refine ev_r_aload_n (pc := 94) (k := 0) (v := .ref 621) trivial (by decide +kernel) (by exact (ev_l1 e5 (by decide) (by decide))) ?_
    refine ev_r_getC (pc := 95) (y := 31) (ci := 13) (f := 10) (fin := 1) (k' := 629) (by decide +kernel) (by decide +kernel) (by exact ev_ob_621) rfl rfl ?_
    refine ev_r_iload (pc := 98) (k := 4) (v := Int32.ofInt x51) (by decide +kernel) (by exact ev_lk_st1_self) ?_
    refine ev_r_iald (pc := 100) hx51 (by decide +kernel) (by exact ev_ab_629) ?_
    intro x65 hx65
    refine ev_r_iast (pc := 101) hx65 hx64 (by decide +kernel) (by exact ev_ab_629) ?_
    intro s66
    refine ev_r_aload_n (pc := 102) (k := 0) (v := .ref 621) trivial (by decide +kernel) (by exact (ev_l1 e5 (by decide) (by decide))) ?_
    refine ev_r_getC (pc := 103) (y := 34) (ci := 13) (f := 11) (fin := 1) (k' := 630) (by decide +kernel) (by decide +kernel) (by exact ev_ob_621) rfl rfl ?_
    refine ev_r_iload_n (pc := 106) (k := 2) (v := Int32.ofInt x2) (by decide +kernel) (by exact (ev_l1 e7 (by decide) (by decide))) ?_
    refine ev_r_iload_n (pc := 107) (k := 3) (v := Int32.ofInt x3) (by decide +kernel) (by exact (ev_lk_st1 e8 (by decide) rfl)) ?_
    refine ev_r_iadd (pc := 108) (by decide +kernel) ?_
    intro x67 hx67
    refine ev_r_aload_n (pc := 109) (k := 0) (v := .ref 621) trivial (by decide +kernel) (by exact (ev_l1 e5 (by decide) (by decide))) ?_
    refine ev_r_getC (pc := 110) (y := 34) (ci := 13) (f := 11) (fin := 1) (k' := 630) (by decide +kernel) (by decide +kernel) (by exact ev_ob_621) rfl rfl ?_
    refine ev_r_iload (pc := 113) (k := 4) (v := Int32.ofInt x51) (by decide +kernel) (by exact ev_lk_st1_self) ?_
    refine ev_r_iald (pc := 115) hx51 (by decide +kernel) (by exact ev_ab_630) ?_
    intro x68 hx68
    refine ev_r_iast (pc := 116) hx68 hx67 (by decide +kernel) (by exact ev_ab_630) ?_
    intro s69
    refine ev_r_aload_n (pc := 117) (k := 0) (v := .ref 621) trivial (by decide +kernel) (by exact (ev_l1 e5 (by decide) (by decide))) ?_
    refine ev_r_getC (pc := 118) (y := 37) (ci := 13) (f := 12) (fin := 1) (k' := 631) (by decide +kernel) (by decide +kernel) (by exact ev_ob_621) rfl rfl ?_
    refine ev_r_iload_n (pc := 121) (k := 2) (v := Int32.ofInt x2) (by decide +kernel) (by exact (ev_l1 e7 (by decide) (by decide))) ?_
    refine ev_r_iload_n (pc := 122) (k := 3) (v := Int32.ofInt x3) (by decide +kernel) (by exact (ev_lk_st1 e8 (by decide) rfl)) ?_
    refine ev_r_iadd (pc := 123) (by decide +kernel) ?_
    intro x70 hx70
    refine ev_r_aload_n (pc := 124) (k := 0) (v := .ref 621) trivial (by decide +kernel) (by exact (ev_l1 e5 (by decide) (by decide))) ?_
    refine ev_r_getC (pc := 125) (y := 37) (ci := 13) (f := 12) (fin := 1) (k' := 631) (by decide +kernel) (by decide +kernel) (by exact ev_ob_621) rfl rfl ?_
    refine ev_r_iload (pc := 128) (k := 4) (v := Int32.ofInt x51) (by decide +kernel) (by exact ev_lk_st1_self) ?_
    refine ev_r_iald (pc := 130) hx51 (by decide +kernel) (by exact ev_ab_631) ?_
    intro x71 hx71
    refine ev_r_iast (pc := 131) hx71 hx70 (by decide +kernel) (by exact ev_ab_631) ?_
    intro s72
    refine ev_r_aload_n (pc := 132) (k := 0) (v := .ref 621) trivial (by decide +kernel) (by exact (ev_l1 e5 (by decide) (by decide))) ?_
    refine ev_r_getC (pc := 133) (y := 40) (ci := 13) (f := 13) (fin := 1) (k' := 632) (by decide +kernel) (by decide +kernel) (by exact ev_ob_621) rfl rfl ?_
    refine ev_r_iload_n (pc := 136) (k := 2) (v := Int32.ofInt x2) (by decide +kernel) (by exact (ev_l1 e7 (by decide) (by decide))) ?_
    refine ev_r_iload_n (pc := 137) (k := 3) (v := Int32.ofInt x3) (by decide +kernel) (by exact (ev_lk_st1 e8 (by decide) rfl)) ?_
    refine ev_r_iadd (pc := 138) (by decide +kernel) ?_
    intro x73 hx73
    refine ev_r_aload_n (pc := 139) (k := 0) (v := .ref 621) trivial (by decide +kernel) (by exact (ev_l1 e5 (by decide) (by decide))) ?_
    refine ev_r_getC (pc := 140) (y := 40) (ci := 13) (f := 13) (fin := 1) (k' := 632) (by decide +kernel) (by decide +kernel) (by exact ev_ob_621) rfl rfl ?_
    refine ev_r_iload (pc := 143) (k := 4) (v := Int32.ofInt x51) (by decide +kernel) (by exact ev_lk_st1_self) ?_
    refine ev_r_iald (pc := 145) hx51 (by decide +kernel) (by exact ev_ab_632) ?_
    intro x74 hx74
    refine ev_r_iast (pc := 146) hx74 hx73 (by decide +kernel) (by exact ev_ab_632) ?_
    intro s75
    refine ev_r_aload_n (pc := 147) (k := 0) (v := .ref 621) trivial (by decide +kernel) (by exact (ev_l1 e5 (by decide) (by decide))) ?_
    refine ev_r_getC (pc := 148) (y := 43) (ci := 13) (f := 14) (fin := 1) (k' := 633) (by decide +kernel) (by decide +kernel) (by exact ev_ob_621) rfl rfl ?_
    refine ev_r_iload_n (pc := 151) (k := 2) (v := Int32.ofInt x2) (by decide +kernel) (by exact (ev_l1 e7 (by decide) (by decide))) ?_
    refine ev_r_iload_n (pc := 152) (k := 3) (v := Int32.ofInt x3) (by decide +kernel) (by exact (ev_lk_st1 e8 (by decide) rfl)) ?_
    refine ev_r_iadd (pc := 153) (by decide +kernel) ?_
    intro x76 hx76
    refine ev_r_aload_n (pc := 154) (k := 0) (v := .ref 621) trivial (by decide +kernel) (by exact (ev_l1 e5 (by decide) (by decide))) ?_
    refine ev_r_getC (pc := 155) (y := 43) (ci := 13) (f := 14) (fin := 1) (k' := 633) (by decide +kernel) (by decide +kernel) (by exact ev_ob_621) rfl rfl ?_
    refine ev_r_iload (pc := 158) (k := 4) (v := Int32.ofInt x51) (by decide +kernel) (by exact ev_lk_st1_self) ?_
    refine ev_r_lald (pc := 160) hx51 (by decide +kernel) (by exact ev_ab_633) ?_
    intro y77
    refine ev_r_last (pc := 161) hx76 (by decide +kernel) (by exact ev_ab_633) ?_
    intro s78
    refine ev_r_aload_n (pc := 162) (k := 0) (v := .ref 621) trivial (by decide +kernel) (by exact (ev_l1 e5 (by decide) (by decide))) ?_
    refine ev_r_getC (pc := 163) (y := 47) (ci := 13) (f := 15) (fin := 1) (k' := 634) (by decide +kernel) (by decide +kernel) (by exact ev_ob_621) rfl rfl ?_
    refine ev_r_iload_n (pc := 166) (k := 2) (v := Int32.ofInt x2) (by decide +kernel) (by exact (ev_l1 e7 (by decide) (by decide))) ?_
    refine ev_r_iload_n (pc := 167) (k := 3) (v := Int32.ofInt x3) (by decide +kernel) (by exact (ev_lk_st1 e8 (by decide) rfl)) ?_
    refine ev_r_iadd (pc := 168) (by decide +kernel) ?_
    intro x79 hx79
    refine ev_r_aload_n (pc := 169) (k := 0) (v := .ref 621) trivial (by decide +kernel) (by exact (ev_l1 e5 (by decide) (by decide))) ?_
    refine ev_r_getC (pc := 170) (y := 47) (ci := 13) (f := 15) (fin := 1) (k' := 634) (by decide +kernel) (by decide +kernel) (by exact ev_ob_621) rfl rfl ?_
    refine ev_r_iload (pc := 173) (k := 4) (v := Int32.ofInt x51) (by decide +kernel) (by exact ev_lk_st1_self) ?_
    refine ev_r_lald (pc := 175) hx51 (by decide +kernel) (by exact ev_ab_634) ?_
    intro y80
    refine ev_r_last (pc := 176) hx79 (by decide +kernel) (by exact ev_ab_634) ?_
    intro s81
    refine ev_r_iinc (pc := 177) (k := 3) (c := 1) (x := x3) (by decide +kernel) (by decide +kernel) (by exact (ev_lk_st1 e8 (by decide) rfl)) (fun _ => rfl) ?_
    intro x82 hx82
    refine ev_r_goto (pc := 180) (o := (-172)) (t := 8) (by decide +kernel) (by decide +kernel) ?_
    exact hK8 x2 hx2 x82 hx82 s81 _ (by exact (ev_l1 (ev_l1 e5 (by decide) (by decide)) (by decide) (by decide))) (by exact (ev_l1 (ev_l1 e6 (by decide) (by decide)) (by decide) (by decide))) (by exact (ev_lk_st1 (ev_l1 e7 (by decide) (by decide)) (by decide) rfl)) (by exact ev_lk_st1_self)
theorem jlt_270_8 (d : Nat) (hd : 4 ≤ d + 1) (Q : Nat) (a0 : Int) (ha0 : ev_rng a0)   : ∀ q : Nat, ∀ (x2 : Int) (hx2 : ev_rng x2), ∀ (x3 : Int) (hx3 : ev_rng x3), ∀ (s9 : ev_St) (w4 : List (Nat × Value)), ev_lk w4 0 = some (.ref 621) → ev_lk w4 1 = some (.int (Int32.ofInt a0)) → ev_lk w4 2 = some (.int (Int32.ofInt x2)) → ev_lk w4 3 = some (.int (Int32.ofInt x3)) → ev_w none (ev_Mof 270) d 8 w4 [] s9 (jl_270_8 Q a0  q x2 x3 s9) ev_eU ev_PU := by
  intro q
  induction q with
  | zero =>
    intro x2 hx2 x3 hx3 s9 w4 e5 e6 e7 e8
    exact ev_w_none
  | succ q ih => exact jbt_270_8 d hd Q a0 ha0   _ ih
/-- MendBenchModel.keeps(I)V -/
def jm_270 (Q : Nat) (a0 : Int) (S : ev_St) : Option ((Unit) × ev_St) := ev_ck (320 * a0) fun x1 => jl_270_8 Q a0  Q x1 0 S
theorem jt_270 (d : Nat) (hd : 4 ≤ d) (Q : Nat) (a0 : Int) (ha0 : ev_rng a0) (S : ev_St) (x : Unit) (S' : ev_St) (hJ : jm_270 Q a0 S = some (x, S')) : ev_Ref d 270 [.ref 621, .int (Int32.ofInt a0)] S (ev_eU x) S' (ev_PU x) := by
  obtain ⟨d, rfl⟩ : ∃ e, d = e + 1 := ⟨d - 1, by omega⟩
  refine ev_ref_of (P := ev_PU) (lv := [(0, .ref 621), (1, .int (Int32.ofInt a0))]) (by decide +kernel) (by (try simp only [ev_sum, ev_nv_cat]); first | done | rfl) (by (try simp only [lv_args, ev_nv_cat]); first | done | rfl) ?_ x S' hJ
  unfold jm_270
  refine ev_r_sipush (pc := 0) (k := 320) (by decide +kernel) (by decide +kernel) ?_
  refine ev_r_iload_n (pc := 3) (k := 1) (v := Int32.ofInt a0) (by decide +kernel) (by rfl) ?_
  refine ev_r_imul (pc := 4) (by decide +kernel) ?_
  intro x1 hx1
  refine ev_r_istore_n (pc := 5) (k := 2) (by decide +kernel) (by decide +kernel) rfl ?_
  refine ev_r_iconst (pc := 6) (k := 0) (by decide +kernel) ?_
  refine ev_r_istore_n (pc := 7) (k := 3) (by decide +kernel) (by decide +kernel) rfl ?_
  exact jlt_270_8 d hd Q a0 ha0   Q x1 hx1 0 (by decide) S _ (by exact (ev_l1 (ev_l1 (by rfl) (by decide) (by decide)) (by decide) (by decide))) (by exact (ev_l1 (ev_lk_st1 (by rfl) (by decide) rfl) (by decide) (by decide))) (by exact (ev_lk_st1 ev_lk_st1_self (by decide) rfl)) (by exact ev_lk_st1_self)
def jb_271_34 (Q : Nat) (a0 : Int) (x7 : Int)  (K34 : Int → ev_St → Option ((Int) × ev_St)) (x9 : Int) (s15 : ev_St) : Option ((Int) × ev_St) := ev_b (s15.1 621 1) fun x16 => if x16 ≤ x9 then (ev_ck (a0 - 97) fun x18 => ev_b (s15.1 621 1) fun x19 => ev_if ((0 : Int) ≤ x18 ∧ x18 < (ev_aln 623 : Int)) (ev_b (ev_pI s15 623 (Int.toNat x18) x19) fun s20 => ev_b (ev_pI s20 621 1 0) fun s21 => some (x7, s21))) else (ev_ck (a0 - 97) fun x22 => ev_ck (120 * x22) fun x23 => ev_ck (x23 + x9) fun x24 => ev_if ((0 : Int) ≤ x9 ∧ x9 < (ev_aln 622 : Int)) (ev_b (s15.1 622 (Int.toNat x9)) fun x25 => ev_if ((0 : Int) ≤ x24 ∧ x24 < (ev_aln 624 : Int)) (ev_b (ev_pI s15 624 (Int.toNat x24) x25) fun s26 => ev_ck (x9 + 1) fun x27 => K34 x27 s26)))
def jl_271_34 (Q : Nat) (a0 : Int) (x7 : Int)  : Nat → Int → ev_St → Option ((Int) × ev_St)
  | 0 => fun _ _ => none
  | q + 1 => jb_271_34 Q a0 x7  (jl_271_34 Q a0 x7  q)
theorem jbt_271_34 (d : Nat) (hd : 9 ≤ d + 1) (Q : Nat) (a0 : Int) (x7 : Int) (ha0 : ev_rng a0) (hx7 : ev_rng x7)   (K34 : Int → ev_St → Option ((Int) × ev_St)) (hK34 : ∀ (x9 : Int) (hx9 : ev_rng x9), ∀ (s15 : ev_St) (w10 : List (Nat × Value)), ev_lk w10 0 = some (.ref 621) → ev_lk w10 1 = some (.int (Int32.ofInt a0)) → ev_lk w10 2 = some (.int (Int32.ofInt x7)) → ev_lk w10 3 = some (.int (Int32.ofInt x9)) → ev_w none (ev_Mof 271) d 34 w10 [] s15 (K34 x9 s15) ev_eI ev_rng) : ∀ (x9 : Int) (hx9 : ev_rng x9), ∀ (s15 : ev_St) (w10 : List (Nat × Value)), ev_lk w10 0 = some (.ref 621) → ev_lk w10 1 = some (.int (Int32.ofInt a0)) → ev_lk w10 2 = some (.int (Int32.ofInt x7)) → ev_lk w10 3 = some (.int (Int32.ofInt x9)) → ev_w none (ev_Mof 271) d 34 w10 [] s15 (jb_271_34 Q a0 x7  K34 x9 s15) ev_eI ev_rng := by
  intro x9 hx9 s15 w10 e11 e12 e13 e14
  unfold jb_271_34
  refine ev_r_iload_n (pc := 34) (k := 3) (v := Int32.ofInt x9) (by decide +kernel) (by exact e14) ?_
  refine ev_r_aload_n (pc := 35) (k := 0) (v := .ref 621) trivial (by decide +kernel) (by exact e11) ?_
  refine ev_r_getI (pc := 36) (y := 346) (ci := 13) (f := 1) (fin := 0) (by decide +kernel) (by decide +kernel) (by exact ev_ob_621) rfl ?_
  intro x16 hx16
  refine ev_r_icmp (pc := 39) (q := .ge) (o := 29) (t := 68) (c := x16 ≤ x9) (by decide +kernel) (ev_k_ge hx9 hx16) (by decide +kernel) ?_ ?_
  · intro c17
    refine ev_r_aload_n (pc := 68) (k := 0) (v := .ref 621) trivial (by decide +kernel) (by exact e11) ?_
    refine ev_r_getC (pc := 69) (y := 13) (ci := 13) (f := 3) (fin := 1) (k' := 623) (by decide +kernel) (by decide +kernel) (by exact ev_ob_621) rfl rfl ?_
    refine ev_r_iload_n (pc := 72) (k := 1) (v := Int32.ofInt a0) (by decide +kernel) (by exact e12) ?_
    refine ev_r_bipush (pc := 73) (k := 97) (by decide +kernel) (by decide +kernel) ?_
    refine ev_r_isub (pc := 75) (by decide +kernel) ?_
    intro x18 hx18
    refine ev_r_aload_n (pc := 76) (k := 0) (v := .ref 621) trivial (by decide +kernel) (by exact e11) ?_
    refine ev_r_getI (pc := 77) (y := 346) (ci := 13) (f := 1) (fin := 0) (by decide +kernel) (by decide +kernel) (by exact ev_ob_621) rfl ?_
    intro x19 hx19
    refine ev_r_iast (pc := 80) hx19 hx18 (by decide +kernel) (by exact ev_ab_623) ?_
    intro s20
    refine ev_r_aload_n (pc := 81) (k := 0) (v := .ref 621) trivial (by decide +kernel) (by exact e11) ?_
    refine ev_r_iconst (pc := 82) (k := 0) (by decide +kernel) ?_
    refine ev_r_putI (pc := 83) (y := 346) (ci := 13) (f := 1) (by decide) (by decide +kernel) (by decide +kernel) (by exact ev_ob_621) rfl rfl ?_
    intro s21
    refine ev_r_iload_n (pc := 86) (k := 2) (v := Int32.ofInt x7) (by decide +kernel) (by exact e13) ?_
    exact ev_r_ireturn (pc := 87) (x := x7) (v := Int32.ofInt x7) (ty := .int) hx7 (by decide +kernel) (by decide +kernel) rfl rfl
  · intro c17
    refine ev_r_aload_n (pc := 42) (k := 0) (v := .ref 621) trivial (by decide +kernel) (by exact e11) ?_
    refine ev_r_getC (pc := 43) (y := 16) (ci := 13) (f := 4) (fin := 1) (k' := 624) (by decide +kernel) (by decide +kernel) (by exact ev_ob_621) rfl rfl ?_
    refine ev_r_bipush (pc := 46) (k := 120) (by decide +kernel) (by decide +kernel) ?_
    refine ev_r_iload_n (pc := 48) (k := 1) (v := Int32.ofInt a0) (by decide +kernel) (by exact e12) ?_
    refine ev_r_bipush (pc := 49) (k := 97) (by decide +kernel) (by decide +kernel) ?_
    refine ev_r_isub (pc := 51) (by decide +kernel) ?_
    intro x22 hx22
    refine ev_r_imul (pc := 52) (by decide +kernel) ?_
    intro x23 hx23
    refine ev_r_iload_n (pc := 53) (k := 3) (v := Int32.ofInt x9) (by decide +kernel) (by exact e14) ?_
    refine ev_r_iadd (pc := 54) (by decide +kernel) ?_
    intro x24 hx24
    refine ev_r_aload_n (pc := 55) (k := 0) (v := .ref 621) trivial (by decide +kernel) (by exact e11) ?_
    refine ev_r_getC (pc := 56) (y := 7) (ci := 13) (f := 2) (fin := 1) (k' := 622) (by decide +kernel) (by decide +kernel) (by exact ev_ob_621) rfl rfl ?_
    refine ev_r_iload_n (pc := 59) (k := 3) (v := Int32.ofInt x9) (by decide +kernel) (by exact e14) ?_
    refine ev_r_iald (pc := 60) hx9 (by decide +kernel) (by exact ev_ab_622) ?_
    intro x25 hx25
    refine ev_r_iast (pc := 61) hx25 hx24 (by decide +kernel) (by exact ev_ab_624) ?_
    intro s26
    refine ev_r_iinc (pc := 62) (k := 3) (c := 1) (x := x9) (by decide +kernel) (by decide +kernel) (by exact e14) (fun _ => rfl) ?_
    intro x27 hx27
    refine ev_r_goto (pc := 65) (o := (-31)) (t := 34) (by decide +kernel) (by decide +kernel) ?_
    exact hK34 x27 hx27 s26 _ (by exact (ev_l1 e11 (by decide) (by decide))) (by exact (ev_l1 e12 (by decide) (by decide))) (by exact (ev_lk_st1 e13 (by decide) rfl)) (by exact ev_lk_st1_self)
theorem jlt_271_34 (d : Nat) (hd : 9 ≤ d + 1) (Q : Nat) (a0 : Int) (x7 : Int) (ha0 : ev_rng a0) (hx7 : ev_rng x7)   : ∀ q : Nat, ∀ (x9 : Int) (hx9 : ev_rng x9), ∀ (s15 : ev_St) (w10 : List (Nat × Value)), ev_lk w10 0 = some (.ref 621) → ev_lk w10 1 = some (.int (Int32.ofInt a0)) → ev_lk w10 2 = some (.int (Int32.ofInt x7)) → ev_lk w10 3 = some (.int (Int32.ofInt x9)) → ev_w none (ev_Mof 271) d 34 w10 [] s15 (jl_271_34 Q a0 x7  q x9 s15) ev_eI ev_rng := by
  intro q
  induction q with
  | zero =>
    intro x9 hx9 s15 w10 e11 e12 e13 e14
    exact ev_w_none
  | succ q ih => exact jbt_271_34 d hd Q a0 x7 ha0 hx7   _ ih
/-- MendBenchModel.part(I)I -/
def jm_271 (Q : Nat) (a0 : Int) (S : ev_St) : Option ((Int) × ev_St) := ev_b (ev_pI S 621 0 0) fun s1 => ev_bd (jm_224 Q a0 s1) fun x3 s2 => if x3 ≠ 0 then (ev_ck (a0 - 97) fun x5 => ev_bd (jm_265 Q x5 s2) fun x7 s6 => if x7 = (-1) then (some (x7, s6)) else (jl_271_34 Q a0 x7  Q 0 s6)) else (ev_bd (jm_221 Q 1 s2) fun x29 s28 => some (x29, s28))
theorem jt_271 (d : Nat) (hd : 9 ≤ d) (Q : Nat) (a0 : Int) (ha0 : ev_rng a0) (S : ev_St) (x : Int) (S' : ev_St) (hJ : jm_271 Q a0 S = some (x, S')) : ev_Ref d 271 [.ref 621, .int (Int32.ofInt a0)] S (ev_eI x) S' (ev_rng x) := by
  obtain ⟨d, rfl⟩ : ∃ e, d = e + 1 := ⟨d - 1, by omega⟩
  refine ev_ref_of (P := ev_rng) (lv := [(0, .ref 621), (1, .int (Int32.ofInt a0))]) (by decide +kernel) (by (try simp only [ev_sum, ev_nv_cat]); first | done | rfl) (by (try simp only [lv_args, ev_nv_cat]); first | done | rfl) ?_ x S' hJ
  unfold jm_271
  refine ev_r_aload_n (pc := 0) (k := 0) (v := .ref 621) trivial (by decide +kernel) (by rfl) ?_
  refine ev_r_iconst (pc := 1) (k := 0) (by decide +kernel) ?_
  refine ev_r_putI (pc := 2) (y := 321) (ci := 13) (f := 0) (by decide) (by decide +kernel) (by decide +kernel) (by exact ev_ob_621) rfl rfl ?_
  intro s1
  refine ev_r_iload_n (pc := 5) (k := 1) (v := Int32.ofInt a0) (by decide +kernel) (by rfl) ?_
  refine ev_r_stat (pc := 6) (y := 329) (kind := 2) (mi := 224) (na := 1) (as := [.int (Int32.ofInt a0)]) (rest := []) (encc := ev_oI) (Q := ev_bl) (fun x S1 h => jt_224 d (by omega) Q a0 ha0 s1 x S1 h) (Or.inl rfl) (by decide +kernel) (by decide +kernel) (by decide +kernel) (by decide +kernel) rfl (by (try simp only [ev_sum, ev_nv_cat]); first | done | rfl) ?_
  intro x3 s2 hx3
  replace hx3 := ev_bl_rng hx3
  show ev_w _ _ _ _ _ [.int (Int32.ofInt x3)] _ _ _ _
  refine ev_r_if (pc := 9) (q := .ne) (o := 9) (t := 18) (c := x3 ≠ 0) (by decide +kernel) (ev_k_ne hx3 ev_rng0) (by decide +kernel) ?_ ?_
  · intro c4
    refine ev_r_aload_n (pc := 18) (k := 0) (v := .ref 621) trivial (by decide +kernel) (by rfl) ?_
    refine ev_r_iload_n (pc := 19) (k := 1) (v := Int32.ofInt a0) (by decide +kernel) (by rfl) ?_
    refine ev_r_bipush (pc := 20) (k := 97) (by decide +kernel) (by decide +kernel) ?_
    refine ev_r_isub (pc := 22) (by decide +kernel) ?_
    intro x5 hx5
    refine ev_r_virt (pc := 23) (y := 522) (mi := 265) (na := 1) (k := 621) (as := [.int (Int32.ofInt x5)]) (rest := []) (encc := ev_oI) (Q := ev_rng) (fun x S1 h => jt_265 d (by omega) Q x5 hx5 s2 x S1 h) (by exact ev_ob_621) (by decide +kernel) (by decide +kernel) (by decide +kernel) (by decide +kernel) rfl (by (try simp only [ev_sum, ev_nv_cat]); first | done | rfl) ?_
    intro x7 s6 hx7
    show ev_w _ _ _ _ _ [.int (Int32.ofInt x7)] _ _ _ _
    refine ev_r_istore_n (pc := 26) (k := 2) (by decide +kernel) (by decide +kernel) rfl ?_
    refine ev_r_iload_n (pc := 27) (k := 2) (v := Int32.ofInt x7) (by decide +kernel) (by exact ev_lk_st1_self) ?_
    refine ev_r_iconst (pc := 28) (k := -1) (by decide +kernel) ?_
    refine ev_r_icmp (pc := 29) (q := .eq) (o := 57) (t := 86) (c := x7 = (-1)) (by decide +kernel) (ev_k_eq hx7 (by decide)) (by decide +kernel) ?_ ?_
    · intro c8
      refine ev_r_iload_n (pc := 86) (k := 2) (v := Int32.ofInt x7) (by decide +kernel) (by exact ev_lk_st1_self) ?_
      exact ev_r_ireturn (pc := 87) (x := x7) (v := Int32.ofInt x7) (ty := .int) hx7 (by decide +kernel) (by decide +kernel) rfl rfl
    · intro c8
      refine ev_r_iconst (pc := 32) (k := 0) (by decide +kernel) ?_
      refine ev_r_istore_n (pc := 33) (k := 3) (by decide +kernel) (by decide +kernel) rfl ?_
      exact jlt_271_34 d hd Q a0 x7 ha0 hx7   Q 0 (by decide) s6 _ (by exact (ev_l1 (ev_l1 (by rfl) (by decide) (by decide)) (by decide) (by decide))) (by exact (ev_l1 (ev_lk_st1 (by rfl) (by decide) rfl) (by decide) (by decide))) (by exact (ev_lk_st1 ev_lk_st1_self (by decide) rfl)) (by exact ev_lk_st1_self)
  · intro c4
    refine ev_r_aload_n (pc := 12) (k := 0) (v := .ref 621) trivial (by decide +kernel) (by rfl) ?_
    refine ev_r_iconst (pc := 13) (k := 1) (by decide +kernel) ?_
    refine ev_r_virt (pc := 14) (y := 342) (mi := 221) (na := 1) (k := 621) (as := [.int (Int32.ofInt 1)]) (rest := []) (encc := ev_oI) (Q := ev_rng) (fun x S1 h => jt_221 d (by omega) Q 1 (by decide) s2 x S1 h) (by exact ev_ob_621) (by decide +kernel) (by decide +kernel) (by decide +kernel) (by decide +kernel) rfl (by (try simp only [ev_sum, ev_nv_cat]); first | done | rfl) ?_
    intro x29 s28 hx29
    show ev_w _ _ _ _ _ [.int (Int32.ofInt x29)] _ _ _ _
    exact ev_r_ireturn (pc := 17) (x := x29) (v := Int32.ofInt x29) (ty := .int) hx29 (by decide +kernel) (by decide +kernel) rfl rfl
/-- MendBenchModel.pattern()I -/
def jm_272 (Q : Nat)  (S : ev_St) : Option ((Int) × ev_St) := ev_b (ev_pI S 621 0 0) fun s1 => ev_b (s1.1 621 5) fun x2 => if x2 ≠ 12 then (ev_bd (jm_265 Q ((-1)) s1) fun x5 s4 => if x5 ≠ (-1) then (ev_b (s4.1 621 5) fun x7 => ev_bd (jm_270 Q x7 s4) fun _ s8 => ev_b (ev_pI s8 621 1 0) fun s9 => ev_b (s9.1 621 5) fun x10 => ev_ck (x10 + 1) fun x11 => ev_b (ev_pI s9 621 5 x11) fun s12 => ev_b (s12.1 621 5) fun x13 => ev_ck (x13 - 1) fun x14 => some (x14, s12)) else (some ((-1), s4))) else (ev_bd (jm_221 Q 1 s1) fun x16 s15 => some (x16, s15))
theorem jt_272 (d : Nat) (hd : 9 ≤ d) (Q : Nat)   (S : ev_St) (x : Int) (S' : ev_St) (hJ : jm_272 Q  S = some (x, S')) : ev_Ref d 272 [.ref 621] S (ev_eI x) S' (ev_rng x) := by
  obtain ⟨d, rfl⟩ : ∃ e, d = e + 1 := ⟨d - 1, by omega⟩
  refine ev_ref_of (P := ev_rng) (lv := [(0, .ref 621)]) (by decide +kernel) (by (try simp only [ev_sum, ev_nv_cat]); first | done | rfl) (by (try simp only [lv_args, ev_nv_cat]); first | done | rfl) ?_ x S' hJ
  unfold jm_272
  refine ev_r_aload_n (pc := 0) (k := 0) (v := .ref 621) trivial (by decide +kernel) (by rfl) ?_
  refine ev_r_iconst (pc := 1) (k := 0) (by decide +kernel) ?_
  refine ev_r_putI (pc := 2) (y := 321) (ci := 13) (f := 0) (by decide) (by decide +kernel) (by decide +kernel) (by exact ev_ob_621) rfl rfl ?_
  intro s1
  refine ev_r_aload_n (pc := 5) (k := 0) (v := .ref 621) trivial (by decide +kernel) (by rfl) ?_
  refine ev_r_getI (pc := 6) (y := 525) (ci := 13) (f := 5) (fin := 0) (by decide +kernel) (by decide +kernel) (by exact ev_ob_621) rfl ?_
  intro x2 hx2
  refine ev_r_bipush (pc := 9) (k := 12) (by decide +kernel) (by decide +kernel) ?_
  refine ev_r_icmp (pc := 11) (q := .ne) (o := 9) (t := 20) (c := x2 ≠ 12) (by decide +kernel) (ev_k_ne hx2 (by decide)) (by decide +kernel) ?_ ?_
  · intro c3
    refine ev_r_aload_n (pc := 20) (k := 0) (v := .ref 621) trivial (by decide +kernel) (by rfl) ?_
    refine ev_r_iconst (pc := 21) (k := -1) (by decide +kernel) ?_
    refine ev_r_virt (pc := 22) (y := 522) (mi := 265) (na := 1) (k := 621) (as := [.int (Int32.ofInt ((-1)))]) (rest := []) (encc := ev_oI) (Q := ev_rng) (fun x S1 h => jt_265 d (by omega) Q ((-1)) (by decide) s1 x S1 h) (by exact ev_ob_621) (by decide +kernel) (by decide +kernel) (by decide +kernel) (by decide +kernel) rfl (by (try simp only [ev_sum, ev_nv_cat]); first | done | rfl) ?_
    intro x5 s4 hx5
    show ev_w _ _ _ _ _ [.int (Int32.ofInt x5)] _ _ _ _
    refine ev_r_iconst (pc := 25) (k := -1) (by decide +kernel) ?_
    refine ev_r_icmp (pc := 26) (q := .ne) (o := 5) (t := 31) (c := x5 ≠ (-1)) (by decide +kernel) (ev_k_ne hx5 (by decide)) (by decide +kernel) ?_ ?_
    · intro c6
      refine ev_r_aload_n (pc := 31) (k := 0) (v := .ref 621) trivial (by decide +kernel) (by rfl) ?_
      refine ev_r_aload_n (pc := 32) (k := 0) (v := .ref 621) trivial (by decide +kernel) (by rfl) ?_
      refine ev_r_getI (pc := 33) (y := 525) (ci := 13) (f := 5) (fin := 0) (by decide +kernel) (by decide +kernel) (by exact ev_ob_621) rfl ?_
      intro x7 hx7
      refine ev_r_virt (pc := 36) (y := 528) (mi := 270) (na := 1) (k := 621) (as := [.int (Int32.ofInt x7)]) (rest := []) (encc := ev_oU) (Q := ev_PU) (fun x S1 h => jt_270 d (by omega) Q x7 hx7 s4 x S1 h) (by exact ev_ob_621) (by decide +kernel) (by decide +kernel) (by decide +kernel) (by decide +kernel) rfl (by (try simp only [ev_sum, ev_nv_cat]); first | done | rfl) ?_
      intro _ s8 _
      show ev_w _ _ _ _ _ [] _ _ _ _
      refine ev_r_aload_n (pc := 39) (k := 0) (v := .ref 621) trivial (by decide +kernel) (by rfl) ?_
      refine ev_r_iconst (pc := 40) (k := 0) (by decide +kernel) ?_
      refine ev_r_putI (pc := 41) (y := 346) (ci := 13) (f := 1) (by decide) (by decide +kernel) (by decide +kernel) (by exact ev_ob_621) rfl rfl ?_
      intro s9
      refine ev_r_aload_n (pc := 44) (k := 0) (v := .ref 621) trivial (by decide +kernel) (by rfl) ?_
      refine ev_r_dup (pc := 45) rfl (by decide +kernel) ?_
      refine ev_r_getI (pc := 46) (y := 525) (ci := 13) (f := 5) (fin := 0) (by decide +kernel) (by decide +kernel) (by exact ev_ob_621) rfl ?_
      intro x10 hx10
      refine ev_r_iconst (pc := 49) (k := 1) (by decide +kernel) ?_
      refine ev_r_iadd (pc := 50) (by decide +kernel) ?_
      intro x11 hx11
      refine ev_r_putI (pc := 51) (y := 525) (ci := 13) (f := 5) hx11 (by decide +kernel) (by decide +kernel) (by exact ev_ob_621) rfl rfl ?_
      intro s12
      refine ev_r_aload_n (pc := 54) (k := 0) (v := .ref 621) trivial (by decide +kernel) (by rfl) ?_
      refine ev_r_getI (pc := 55) (y := 525) (ci := 13) (f := 5) (fin := 0) (by decide +kernel) (by decide +kernel) (by exact ev_ob_621) rfl ?_
      intro x13 hx13
      refine ev_r_iconst (pc := 58) (k := 1) (by decide +kernel) ?_
      refine ev_r_isub (pc := 59) (by decide +kernel) ?_
      intro x14 hx14
      exact ev_r_ireturn (pc := 60) (x := x14) (v := Int32.ofInt x14) (ty := .int) hx14 (by decide +kernel) (by decide +kernel) rfl rfl
    · intro c6
      refine ev_r_iconst (pc := 29) (k := -1) (by decide +kernel) ?_
      exact ev_r_ireturn (pc := 30) (x := (-1)) (v := Int32.ofInt ((-1))) (ty := .int) (by decide) (by decide +kernel) (by decide +kernel) rfl rfl
  · intro c3
    refine ev_r_aload_n (pc := 14) (k := 0) (v := .ref 621) trivial (by decide +kernel) (by rfl) ?_
    refine ev_r_iconst (pc := 15) (k := 1) (by decide +kernel) ?_
    refine ev_r_virt (pc := 16) (y := 342) (mi := 221) (na := 1) (k := 621) (as := [.int (Int32.ofInt 1)]) (rest := []) (encc := ev_oI) (Q := ev_rng) (fun x S1 h => jt_221 d (by omega) Q 1 (by decide) s1 x S1 h) (by exact ev_ob_621) (by decide +kernel) (by decide +kernel) (by decide +kernel) (by decide +kernel) rfl (by (try simp only [ev_sum, ev_nv_cat]); first | done | rfl) ?_
    intro x16 s15 hx16
    show ev_w _ _ _ _ _ [.int (Int32.ofInt x16)] _ _ _ _
    exact ev_r_ireturn (pc := 19) (x := x16) (v := Int32.ofInt x16) (ty := .int) hx16 (by decide +kernel) (by decide +kernel) rfl rfl
/-- MendBenchModel.isPattern(I)Z -/
def jm_273 (Q : Nat) (a0 : Int) (S : ev_St) : Option ((Int) × ev_St) := ev_b (S.1 621 5) fun x1 => ev_ck (x1 - 1) fun x2 => ev_bd (jm_222 Q a0 0 x2 S) fun x4 s3 => ev_if (ev_bl x4) (some (x4, s3))
theorem jt_273 (d : Nat) (hd : 2 ≤ d) (Q : Nat) (a0 : Int) (ha0 : ev_rng a0) (S : ev_St) (x : Int) (S' : ev_St) (hJ : jm_273 Q a0 S = some (x, S')) : ev_Ref d 273 [.ref 621, .int (Int32.ofInt a0)] S (ev_eI x) S' (ev_bl x) := by
  obtain ⟨d, rfl⟩ : ∃ e, d = e + 1 := ⟨d - 1, by omega⟩
  refine ev_ref_of (P := ev_bl) (lv := [(0, .ref 621), (1, .int (Int32.ofInt a0))]) (by decide +kernel) (by (try simp only [ev_sum, ev_nv_cat]); first | done | rfl) (by (try simp only [lv_args, ev_nv_cat]); first | done | rfl) ?_ x S' hJ
  unfold jm_273
  refine ev_r_iload_n (pc := 0) (k := 1) (v := Int32.ofInt a0) (by decide +kernel) (by rfl) ?_
  refine ev_r_iconst (pc := 1) (k := 0) (by decide +kernel) ?_
  refine ev_r_aload_n (pc := 2) (k := 0) (v := .ref 621) trivial (by decide +kernel) (by rfl) ?_
  refine ev_r_getI (pc := 3) (y := 525) (ci := 13) (f := 5) (fin := 0) (by decide +kernel) (by decide +kernel) (by exact ev_ob_621) rfl ?_
  intro x1 hx1
  refine ev_r_iconst (pc := 6) (k := 1) (by decide +kernel) ?_
  refine ev_r_isub (pc := 7) (by decide +kernel) ?_
  intro x2 hx2
  refine ev_r_stat (pc := 8) (y := 325) (kind := 2) (mi := 222) (na := 3) (as := [.int (Int32.ofInt a0), .int (Int32.ofInt 0), .int (Int32.ofInt x2)]) (rest := []) (encc := ev_oI) (Q := ev_bl) (fun x S1 h => jt_222 d (by omega) Q a0 0 x2 ha0 (by decide) hx2 S x S1 h) (Or.inl rfl) (by decide +kernel) (by decide +kernel) (by decide +kernel) (by decide +kernel) rfl (by (try simp only [ev_sum, ev_nv_cat]); first | done | rfl) ?_
  intro x4 s3 hx4
  replace hx4 := ev_bl_rng hx4
  show ev_w _ _ _ _ _ [.int (Int32.ofInt x4)] _ _ _ _
  refine ev_r_chk ?_
  intro c5
  exact ev_r_ireturn (pc := 11) (x := x4) (v := Int32.ofInt x4) (ty := .boolean) c5 (by decide +kernel) (by decide +kernel) (ev_ret_bl c5) rfl
/-- MendBenchModel.groups(I)I -/
def jm_274 (Q : Nat) (a0 : Int) (S : ev_St) : Option ((Int) × ev_St) := ev_b (ev_pI S 621 0 0) fun s1 => ev_bd (jm_273 Q a0 s1) fun x3 s2 => if x3 = 0 then (ev_bd (jm_221 Q 1 s2) fun x6 s5 => some (x6, s5)) else (ev_if ((0 : Int) ≤ a0 ∧ a0 < (ev_aln 636 : Int)) (ev_b (s2.1 636 (Int.toNat a0)) fun x7 => ev_ck (10 * x7) fun x8 => ev_if ((0 : Int) ≤ a0 ∧ a0 < (ev_aln 639 : Int)) (ev_b (s2.1 639 (Int.toNat a0)) fun x9 => ev_ck (x8 + x9) fun x10 => some (x10, s2))))
theorem jt_274 (d : Nat) (hd : 3 ≤ d) (Q : Nat) (a0 : Int) (ha0 : ev_rng a0) (S : ev_St) (x : Int) (S' : ev_St) (hJ : jm_274 Q a0 S = some (x, S')) : ev_Ref d 274 [.ref 621, .int (Int32.ofInt a0)] S (ev_eI x) S' (ev_rng x) := by
  obtain ⟨d, rfl⟩ : ∃ e, d = e + 1 := ⟨d - 1, by omega⟩
  refine ev_ref_of (P := ev_rng) (lv := [(0, .ref 621), (1, .int (Int32.ofInt a0))]) (by decide +kernel) (by (try simp only [ev_sum, ev_nv_cat]); first | done | rfl) (by (try simp only [lv_args, ev_nv_cat]); first | done | rfl) ?_ x S' hJ
  unfold jm_274
  refine ev_r_aload_n (pc := 0) (k := 0) (v := .ref 621) trivial (by decide +kernel) (by rfl) ?_
  refine ev_r_iconst (pc := 1) (k := 0) (by decide +kernel) ?_
  refine ev_r_putI (pc := 2) (y := 321) (ci := 13) (f := 0) (by decide) (by decide +kernel) (by decide +kernel) (by exact ev_ob_621) rfl rfl ?_
  intro s1
  refine ev_r_aload_n (pc := 5) (k := 0) (v := .ref 621) trivial (by decide +kernel) (by rfl) ?_
  refine ev_r_iload_n (pc := 6) (k := 1) (v := Int32.ofInt a0) (by decide +kernel) (by rfl) ?_
  refine ev_r_virt (pc := 7) (y := 531) (mi := 273) (na := 1) (k := 621) (as := [.int (Int32.ofInt a0)]) (rest := []) (encc := ev_oI) (Q := ev_bl) (fun x S1 h => jt_273 d (by omega) Q a0 ha0 s1 x S1 h) (by exact ev_ob_621) (by decide +kernel) (by decide +kernel) (by decide +kernel) (by decide +kernel) rfl (by (try simp only [ev_sum, ev_nv_cat]); first | done | rfl) ?_
  intro x3 s2 hx3
  replace hx3 := ev_bl_rng hx3
  show ev_w _ _ _ _ _ [.int (Int32.ofInt x3)] _ _ _ _
  refine ev_r_if (pc := 10) (q := .eq) (o := 22) (t := 32) (c := x3 = 0) (by decide +kernel) (ev_k_eq hx3 ev_rng0) (by decide +kernel) ?_ ?_
  · intro c4
    refine ev_r_aload_n (pc := 32) (k := 0) (v := .ref 621) trivial (by decide +kernel) (by rfl) ?_
    refine ev_r_iconst (pc := 33) (k := 1) (by decide +kernel) ?_
    refine ev_r_virt (pc := 34) (y := 342) (mi := 221) (na := 1) (k := 621) (as := [.int (Int32.ofInt 1)]) (rest := []) (encc := ev_oI) (Q := ev_rng) (fun x S1 h => jt_221 d (by omega) Q 1 (by decide) s2 x S1 h) (by exact ev_ob_621) (by decide +kernel) (by decide +kernel) (by decide +kernel) (by decide +kernel) rfl (by (try simp only [ev_sum, ev_nv_cat]); first | done | rfl) ?_
    intro x6 s5 hx6
    show ev_w _ _ _ _ _ [.int (Int32.ofInt x6)] _ _ _ _
    exact ev_r_ireturn (pc := 37) (x := x6) (v := Int32.ofInt x6) (ty := .int) hx6 (by decide +kernel) (by decide +kernel) rfl rfl
  · intro c4
    refine ev_r_bipush (pc := 13) (k := 10) (by decide +kernel) (by decide +kernel) ?_
    refine ev_r_aload_n (pc := 15) (k := 0) (v := .ref 621) trivial (by decide +kernel) (by rfl) ?_
    refine ev_r_getC (pc := 16) (y := 53) (ci := 13) (f := 17) (fin := 1) (k' := 636) (by decide +kernel) (by decide +kernel) (by exact ev_ob_621) rfl rfl ?_
    refine ev_r_iload_n (pc := 19) (k := 1) (v := Int32.ofInt a0) (by decide +kernel) (by rfl) ?_
    refine ev_r_iald (pc := 20) ha0 (by decide +kernel) (by exact ev_ab_636) ?_
    intro x7 hx7
    refine ev_r_imul (pc := 21) (by decide +kernel) ?_
    intro x8 hx8
    refine ev_r_aload_n (pc := 22) (k := 0) (v := .ref 621) trivial (by decide +kernel) (by rfl) ?_
    refine ev_r_getC (pc := 23) (y := 62) (ci := 13) (f := 20) (fin := 1) (k' := 639) (by decide +kernel) (by decide +kernel) (by exact ev_ob_621) rfl rfl ?_
    refine ev_r_iload_n (pc := 26) (k := 1) (v := Int32.ofInt a0) (by decide +kernel) (by rfl) ?_
    refine ev_r_iald (pc := 27) ha0 (by decide +kernel) (by exact ev_ab_639) ?_
    intro x9 hx9
    refine ev_r_iadd (pc := 28) (by decide +kernel) ?_
    intro x10 hx10
    refine ev_r_goto (pc := 29) (o := 8) (t := 37) (by decide +kernel) (by decide +kernel) ?_
    exact ev_r_ireturn (pc := 37) (x := x10) (v := Int32.ofInt x10) (ty := .int) hx10 (by decide +kernel) (by decide +kernel) rfl rfl
/-- MendBenchModel.least(I)I -/
def jm_275 (Q : Nat) (a0 : Int) (S : ev_St) : Option ((Int) × ev_St) := ev_b (ev_pI S 621 0 0) fun s1 => ev_bd (jm_273 Q a0 s1) fun x3 s2 => if x3 = 0 then (ev_bd (jm_221 Q 1 s2) fun x6 s5 => some (x6, s5)) else (ev_ck (320 * a0) fun x7 => ev_if ((0 : Int) ≤ x7 ∧ x7 < (ev_aln 641 : Int)) (ev_b (s2.1 641 (Int.toNat x7)) fun x8 => some (x8, s2)))
theorem jt_275 (d : Nat) (hd : 3 ≤ d) (Q : Nat) (a0 : Int) (ha0 : ev_rng a0) (S : ev_St) (x : Int) (S' : ev_St) (hJ : jm_275 Q a0 S = some (x, S')) : ev_Ref d 275 [.ref 621, .int (Int32.ofInt a0)] S (ev_eI x) S' (ev_rng x) := by
  obtain ⟨d, rfl⟩ : ∃ e, d = e + 1 := ⟨d - 1, by omega⟩
  refine ev_ref_of (P := ev_rng) (lv := [(0, .ref 621), (1, .int (Int32.ofInt a0))]) (by decide +kernel) (by (try simp only [ev_sum, ev_nv_cat]); first | done | rfl) (by (try simp only [lv_args, ev_nv_cat]); first | done | rfl) ?_ x S' hJ
  unfold jm_275
  refine ev_r_aload_n (pc := 0) (k := 0) (v := .ref 621) trivial (by decide +kernel) (by rfl) ?_
  refine ev_r_iconst (pc := 1) (k := 0) (by decide +kernel) ?_
  refine ev_r_putI (pc := 2) (y := 321) (ci := 13) (f := 0) (by decide) (by decide +kernel) (by decide +kernel) (by exact ev_ob_621) rfl rfl ?_
  intro s1
  refine ev_r_aload_n (pc := 5) (k := 0) (v := .ref 621) trivial (by decide +kernel) (by rfl) ?_
  refine ev_r_iload_n (pc := 6) (k := 1) (v := Int32.ofInt a0) (by decide +kernel) (by rfl) ?_
  refine ev_r_virt (pc := 7) (y := 531) (mi := 273) (na := 1) (k := 621) (as := [.int (Int32.ofInt a0)]) (rest := []) (encc := ev_oI) (Q := ev_bl) (fun x S1 h => jt_273 d (by omega) Q a0 ha0 s1 x S1 h) (by exact ev_ob_621) (by decide +kernel) (by decide +kernel) (by decide +kernel) (by decide +kernel) rfl (by (try simp only [ev_sum, ev_nv_cat]); first | done | rfl) ?_
  intro x3 s2 hx3
  replace hx3 := ev_bl_rng hx3
  show ev_w _ _ _ _ _ [.int (Int32.ofInt x3)] _ _ _ _
  refine ev_r_if (pc := 10) (q := .eq) (o := 16) (t := 26) (c := x3 = 0) (by decide +kernel) (ev_k_eq hx3 ev_rng0) (by decide +kernel) ?_ ?_
  · intro c4
    refine ev_r_aload_n (pc := 26) (k := 0) (v := .ref 621) trivial (by decide +kernel) (by rfl) ?_
    refine ev_r_iconst (pc := 27) (k := 1) (by decide +kernel) ?_
    refine ev_r_virt (pc := 28) (y := 342) (mi := 221) (na := 1) (k := 621) (as := [.int (Int32.ofInt 1)]) (rest := []) (encc := ev_oI) (Q := ev_rng) (fun x S1 h => jt_221 d (by omega) Q 1 (by decide) s2 x S1 h) (by exact ev_ob_621) (by decide +kernel) (by decide +kernel) (by decide +kernel) (by decide +kernel) rfl (by (try simp only [ev_sum, ev_nv_cat]); first | done | rfl) ?_
    intro x6 s5 hx6
    show ev_w _ _ _ _ _ [.int (Int32.ofInt x6)] _ _ _ _
    exact ev_r_ireturn (pc := 31) (x := x6) (v := Int32.ofInt x6) (ty := .int) hx6 (by decide +kernel) (by decide +kernel) rfl rfl
  · intro c4
    refine ev_r_aload_n (pc := 13) (k := 0) (v := .ref 621) trivial (by decide +kernel) (by rfl) ?_
    refine ev_r_getC (pc := 14) (y := 68) (ci := 13) (f := 22) (fin := 1) (k' := 641) (by decide +kernel) (by decide +kernel) (by exact ev_ob_621) rfl rfl ?_
    refine ev_r_sipush (pc := 17) (k := 320) (by decide +kernel) (by decide +kernel) ?_
    refine ev_r_iload_n (pc := 20) (k := 1) (v := Int32.ofInt a0) (by decide +kernel) (by rfl) ?_
    refine ev_r_imul (pc := 21) (by decide +kernel) ?_
    intro x7 hx7
    refine ev_r_iald (pc := 22) hx7 (by decide +kernel) (by exact ev_ab_641) ?_
    intro x8 hx8
    refine ev_r_goto (pc := 23) (o := 8) (t := 31) (by decide +kernel) (by decide +kernel) ?_
    exact ev_r_ireturn (pc := 31) (x := x8) (v := Int32.ofInt x8) (ty := .int) hx8 (by decide +kernel) (by decide +kernel) rfl rfl
def jb_276_101 (Q : Nat) (a1 : Int) (x4 : Int) (x5 : Int) (x15 : Int) (K16 : Int → Int → ev_St → Option ((Unit) × ev_St)) (K101 : Int → Int → Int → ev_St → Option ((Unit) × ev_St)) (x25 : Int) (x26 : Int) (x27 : Int) (s37 : ev_St) : Option ((Unit) × ev_St) := if x27 = (-1) then (ev_jn (fun (x41 : Int) (x40 : Int) (r39 : Nat) (s47 : ev_St) => ev_if (ev_bl x41) (ev_if ((0 : Int) ≤ x40 ∧ x40 < (ev_aln r39 : Int)) (ev_b (ev_pI s47 r39 (Int.toNat x40) x41) fun s48 => ev_ck (x5 + (-1)) fun x50 => K16 x4 x50 s48))) fun K258 => ev_jn (fun (x52 : Int) (r51 : Nat) (s58 : ev_St) => K258 0 x52 r51 s58) fun K257 => if x25 = 0 then (K257 x5 658 s37) else (ev_if ((0 : Int) ≤ x15 ∧ x15 < (ev_aln 630 : Int)) (ev_b (s37.1 630 (Int.toNat x15)) fun x60 => ev_jn (fun (x62 : Int) (r61 : Nat) (s68 : ev_St) => K258 1 x62 r61 s68) fun K253 => if x60 = (-1) then (K253 x5 658 s37) else (ev_if ((0 : Int) ≤ x15 ∧ x15 < (ev_aln 632 : Int)) (ev_b (s37.1 632 (Int.toNat x15)) fun x70 => if x70 = 0 then (K257 x5 658 s37) else (K253 x5 658 s37)))))) else (ev_if ((0 : Int) ≤ x15 ∧ x15 < (ev_aln 625 : Int)) (ev_b (s37.1 625 (Int.toNat x15)) fun x72 => ev_jn (fun (x73 : Int) (s83 : ev_St) => ev_jn (fun (x84 : Int) (s93 : ev_St) => ev_jn (fun (x94 : Int) (x95 : Int) (s104 : ev_St) => ev_ck (x4 + x27) fun x105 => ev_if ((0 : Int) ≤ x105 ∧ x105 < (ev_aln 627 : Int)) (ev_b (s104.1 627 (Int.toNat x105)) fun x106 => K101 x94 x95 x106 s104)) fun K205 => ev_jn (fun (x107 : Int) (s116 : ev_St) => K205 x107 0 s116) fun K204 => if x26 = 0 then (K204 x84 s93) else (ev_ck (x4 + x27) fun x118 => ev_if ((0 : Int) ≤ x118 ∧ x118 < (ev_aln 641 : Int)) (ev_b (s93.1 641 (Int.toNat x118)) fun x119 => if x119 ≠ 0 then (K204 x84 s93) else (K205 x84 1 s93)))) fun K181 => ev_jn (fun  (s129 : ev_St) => K181 1 s129) fun K176 => if x25 ≠ 0 then (K176  s83) else (ev_jn (fun  (s139 : ev_St) => K181 0 s139) fun K180 => if x73 = 0 then (K180  s83) else (ev_if ((0 : Int) ≤ x27 ∧ x27 < (ev_aln 658 : Int)) (ev_b (s83.1 658 (Int.toNat x27)) fun x141 => if x141 = 0 then (K180  s83) else (K176  s83))))) fun K154 => if x72 ≠ 18 then (ev_if ((0 : Int) ≤ x15 ∧ x15 < (ev_aln 625 : Int)) (ev_b (s37.1 625 (Int.toNat x15)) fun x144 => ev_bd (jm_267 Q x144 s37) fun x146 s145 => ev_jn (fun  (s156 : ev_St) => K154 1 s156) fun K149 => if x146 ≠ 0 then (K149  s145) else (ev_if ((0 : Int) ≤ x15 ∧ x15 < (ev_aln 625 : Int)) (ev_b (s145.1 625 (Int.toNat x15)) fun x158 => if x158 ≠ 13 then (K154 0 s145) else (K149  s145))))) else (K154 x26 s37)))
def jl_276_101 (Q : Nat) (a1 : Int) (x4 : Int) (x5 : Int) (x15 : Int) (K16 : Int → Int → ev_St → Option ((Unit) × ev_St)) : Nat → Int → Int → Int → ev_St → Option ((Unit) × ev_St)
  | 0 => fun _ _ _ _ => none
  | q + 1 => jb_276_101 Q a1 x4 x5 x15 K16 (jl_276_101 Q a1 x4 x5 x15 K16 q)
theorem jbt_276_101 (d : Nat) (hd : 3 ≤ d + 1) (Q : Nat) (a1 : Int) (x4 : Int) (x5 : Int) (x15 : Int) (ha1 : ev_rng a1) (hx4 : ev_rng x4) (hx5 : ev_rng x5) (hx15 : ev_rng x15) (K16 : Int → Int → ev_St → Option ((Unit) × ev_St)) (hK16 : ∀ (x4 : Int) (hx4 : ev_rng x4), ∀ (x5 : Int) (hx5 : ev_rng x5), ∀ (s11 : ev_St) (w6 : List (Nat × Value)), ev_lk w6 0 = some (.ref 621) → ev_lk w6 2 = some (.int (Int32.ofInt a1)) → ev_lk w6 3 = some (.int (Int32.ofInt x4)) → ev_lk w6 4 = some (.int (Int32.ofInt x5)) → ev_w none (ev_Mof 276) d 16 w6 [] s11 (K16 x4 x5 s11) ev_eU ev_PU) (K101 : Int → Int → Int → ev_St → Option ((Unit) × ev_St)) (hK101 : ∀ (x25 : Int) (hx25 : ev_rng x25), ∀ (x26 : Int) (hx26 : ev_rng x26), ∀ (x27 : Int) (hx27 : ev_rng x27), ∀ (s37 : ev_St) (w28 : List (Nat × Value)), ev_lk w28 0 = some (.ref 621) → ev_lk w28 2 = some (.int (Int32.ofInt a1)) → ev_lk w28 3 = some (.int (Int32.ofInt x4)) → ev_lk w28 4 = some (.int (Int32.ofInt x5)) → ev_lk w28 5 = some (.int (Int32.ofInt x15)) → ev_lk w28 6 = some (.int (Int32.ofInt x25)) → ev_lk w28 7 = some (.int (Int32.ofInt x26)) → ev_lk w28 8 = some (.int (Int32.ofInt x27)) → ev_w none (ev_Mof 276) d 101 w28 [] s37 (K101 x25 x26 x27 s37) ev_eU ev_PU) : ∀ (x25 : Int) (hx25 : ev_rng x25), ∀ (x26 : Int) (hx26 : ev_rng x26), ∀ (x27 : Int) (hx27 : ev_rng x27), ∀ (s37 : ev_St) (w28 : List (Nat × Value)), ev_lk w28 0 = some (.ref 621) → ev_lk w28 2 = some (.int (Int32.ofInt a1)) → ev_lk w28 3 = some (.int (Int32.ofInt x4)) → ev_lk w28 4 = some (.int (Int32.ofInt x5)) → ev_lk w28 5 = some (.int (Int32.ofInt x15)) → ev_lk w28 6 = some (.int (Int32.ofInt x25)) → ev_lk w28 7 = some (.int (Int32.ofInt x26)) → ev_lk w28 8 = some (.int (Int32.ofInt x27)) → ev_w none (ev_Mof 276) d 101 w28 [] s37 (jb_276_101 Q a1 x4 x5 x15 K16 K101 x25 x26 x27 s37) ev_eU ev_PU := by
  intro x25 hx25 x26 hx26 x27 hx27 s37 w28 e29 e30 e31 e32 e33 e34 e35 e36
  unfold jb_276_101
  refine ev_r_iload (pc := 101) (k := 8) (v := Int32.ofInt x27) (by decide +kernel) (by exact e36) ?_
  refine ev_r_iconst (pc := 103) (k := -1) (by decide +kernel) ?_
  refine ev_r_icmp (pc := 104) (q := .eq) (o := 117) (t := 221) (c := x27 = (-1)) (by decide +kernel) (ev_k_eq hx27 (by decide)) (by decide +kernel) ?_ ?_
  · intro c38
    refine ev_r_aload_n (pc := 221) (k := 0) (v := .ref 621) trivial (by decide +kernel) (by exact e29) ?_
    refine ev_r_getC (pc := 222) (y := 120) (ci := 13) (f := 50) (fin := 1) (k' := 658) (by decide +kernel) (by decide +kernel) (by exact ev_ob_621) rfl rfl ?_
    refine ev_r_iload (pc := 225) (k := 4) (v := Int32.ofInt x5) (by decide +kernel) (by exact e32) ?_
    refine ev_r_iload (pc := 227) (k := 6) (v := Int32.ofInt x25) (by decide +kernel) (by exact e34) ?_
    refine ev_r_jn (Q := fun K => ∀ (x41 : Int) (hx41 : ev_rng x41), ∀ (x40 : Int) (hx40 : ev_rng x40), ∀ (r39 : Nat) (hr39 : ev_isAb r39 1 .boolean = true), ∀ (s47 : ev_St) (w42 : List (Nat × Value)), ev_lk w42 0 = some (.ref 621) → ev_lk w42 2 = some (.int (Int32.ofInt a1)) → ev_lk w42 3 = some (.int (Int32.ofInt x4)) → ev_lk w42 4 = some (.int (Int32.ofInt x5)) → ev_w none (ev_Mof 276) d 258 w42 [.int (Int32.ofInt x41), .int (Int32.ofInt x40), .ref r39] s47 (K x41 x40 r39 s47) ev_eU ev_PU) ?_ ?_
    · intro x41 hx41 x40 hx40 r39 hr39 s47 w42 e43 e44 e45 e46
      refine ev_r_chk ?_
      intro c49
      refine ev_r_bast (pc := 258) (ty := .boolean) (Or.inr rfl) (ev_nar_bl c49) hx41 hx40 (by decide +kernel) (by exact hr39) ?_
      intro s48
      refine ev_r_iinc (pc := 259) (k := 4) (c := -1) (x := x5) (by decide +kernel) (by decide +kernel) (by exact e46) (fun _ => rfl) ?_
      intro x50 hx50
      refine ev_r_goto (pc := 262) (o := (-246)) (t := 16) (by decide +kernel) (by decide +kernel) ?_
      exact hK16 x4 hx4 x50 hx50 s48 _ (by exact (ev_l1 e43 (by decide) (by decide))) (by exact (ev_l1 e44 (by decide) (by decide))) (by exact (ev_lk_st1 e45 (by decide) rfl)) (by exact ev_lk_st1_self)
    · intro K258 hK258
      refine ev_r_jn (Q := fun K => ∀ (x52 : Int) (hx52 : ev_rng x52), ∀ (r51 : Nat) (hr51 : ev_isAb r51 1 .boolean = true), ∀ (s58 : ev_St) (w53 : List (Nat × Value)), ev_lk w53 0 = some (.ref 621) → ev_lk w53 2 = some (.int (Int32.ofInt a1)) → ev_lk w53 3 = some (.int (Int32.ofInt x4)) → ev_lk w53 4 = some (.int (Int32.ofInt x5)) → ev_w none (ev_Mof 276) d 257 w53 [.int (Int32.ofInt x52), .ref r51] s58 (K x52 r51 s58) ev_eU ev_PU) ?_ ?_
      · intro x52 hx52 r51 hr51 s58 w53 e54 e55 e56 e57
        refine ev_r_iconst (pc := 257) (k := 0) (by decide +kernel) ?_
        exact hK258 0 (by decide) x52 hx52 r51 hr51 s58 _ (by exact e54) (by exact e55) (by exact e56) (by exact e57)
      · intro K257 hK257
        refine ev_r_if (pc := 229) (q := .eq) (o := 28) (t := 257) (c := x25 = 0) (by decide +kernel) (ev_k_eq hx25 ev_rng0) (by decide +kernel) ?_ ?_
        · intro c59
          exact hK257 x5 hx5 658 ev_ab_658 s37 _ (by exact e29) (by exact e30) (by exact e31) (by exact e32)
        · intro c59
          refine ev_r_aload_n (pc := 232) (k := 0) (v := .ref 621) trivial (by decide +kernel) (by exact e29) ?_
          refine ev_r_getC (pc := 233) (y := 34) (ci := 13) (f := 11) (fin := 1) (k' := 630) (by decide +kernel) (by decide +kernel) (by exact ev_ob_621) rfl rfl ?_
          refine ev_r_iload (pc := 236) (k := 5) (v := Int32.ofInt x15) (by decide +kernel) (by exact e33) ?_
          refine ev_r_iald (pc := 238) hx15 (by decide +kernel) (by exact ev_ab_630) ?_
          intro x60 hx60
          refine ev_r_iconst (pc := 239) (k := -1) (by decide +kernel) ?_
          refine ev_r_jn (Q := fun K => ∀ (x62 : Int) (hx62 : ev_rng x62), ∀ (r61 : Nat) (hr61 : ev_isAb r61 1 .boolean = true), ∀ (s68 : ev_St) (w63 : List (Nat × Value)), ev_lk w63 0 = some (.ref 621) → ev_lk w63 2 = some (.int (Int32.ofInt a1)) → ev_lk w63 3 = some (.int (Int32.ofInt x4)) → ev_lk w63 4 = some (.int (Int32.ofInt x5)) → ev_w none (ev_Mof 276) d 253 w63 [.int (Int32.ofInt x62), .ref r61] s68 (K x62 r61 s68) ev_eU ev_PU) ?_ ?_
          · intro x62 hx62 r61 hr61 s68 w63 e64 e65 e66 e67
            refine ev_r_iconst (pc := 253) (k := 1) (by decide +kernel) ?_
            refine ev_r_goto (pc := 254) (o := 4) (t := 258) (by decide +kernel) (by decide +kernel) ?_
            exact hK258 1 (by decide) x62 hx62 r61 hr61 s68 _ (by exact e64) (by exact e65) (by exact e66) (by exact e67)
          · intro K253 hK253
            refine ev_r_icmp (pc := 240) (q := .eq) (o := 13) (t := 253) (c := x60 = (-1)) (by decide +kernel) (ev_k_eq hx60 (by decide)) (by decide +kernel) ?_ ?_
            · intro c69
              exact hK253 x5 hx5 658 ev_ab_658 s37 _ (by exact e29) (by exact e30) (by exact e31) (by exact e32)
            · intro c69
              refine ev_r_aload_n (pc := 243) (k := 0) (v := .ref 621) trivial (by decide +kernel) (by exact e29) ?_
              refine ev_r_getC (pc := 244) (y := 40) (ci := 13) (f := 13) (fin := 1) (k' := 632) (by decide +kernel) (by decide +kernel) (by exact ev_ob_621) rfl rfl ?_
              refine ev_r_iload (pc := 247) (k := 5) (v := Int32.ofInt x15) (by decide +kernel) (by exact e33) ?_
              refine ev_r_iald (pc := 249) hx15 (by decide +kernel) (by exact ev_ab_632) ?_
              intro x70 hx70
              refine ev_r_if (pc := 250) (q := .eq) (o := 7) (t := 257) (c := x70 = 0) (by decide +kernel) (ev_k_eq hx70 ev_rng0) (by decide +kernel) ?_ ?_
              · intro c71
                exact hK257 x5 hx5 658 ev_ab_658 s37 _ (by exact e29) (by exact e30) (by exact e31) (by exact e32)
              · intro c71
                exact hK253 x5 hx5 658 ev_ab_658 s37 _ (by exact e29) (by exact e30) (by exact e31) (by exact e32)
  · intro c38
    refine ev_r_aload_n (pc := 107) (k := 0) (v := .ref 621) trivial (by decide +kernel) (by exact e29) ?_
    refine ev_r_getC (pc := 108) (y := 19) (ci := 13) (f := 6) (fin := 1) (k' := 625) (by decide +kernel) (by decide +kernel) (by exact ev_ob_621) rfl rfl ?_
    refine ev_r_iload (pc := 111) (k := 5) (v := Int32.ofInt x15) (by decide +kernel) (by exact e33) ?_
    refine ev_r_iald (pc := 113) hx15 (by decide +kernel) (by exact ev_ab_625) ?_
    intro x72 hx72
    refine ev_r_bipush (pc := 114) (k := 18) (by decide +kernel) (by decide +kernel) ?_
    refine ev_r_jn (Q := fun K => ∀ (x73 : Int) (hx73 : ev_rng x73), ∀ (s83 : ev_St) (w74 : List (Nat × Value)), ev_lk w74 0 = some (.ref 621) → ev_lk w74 2 = some (.int (Int32.ofInt a1)) → ev_lk w74 3 = some (.int (Int32.ofInt x4)) → ev_lk w74 4 = some (.int (Int32.ofInt x5)) → ev_lk w74 5 = some (.int (Int32.ofInt x15)) → ev_lk w74 6 = some (.int (Int32.ofInt x25)) → ev_lk w74 7 = some (.int (Int32.ofInt x26)) → ev_lk w74 8 = some (.int (Int32.ofInt x27)) → ev_w none (ev_Mof 276) d 154 w74 [.int (Int32.ofInt x73)] s83 (K x73 s83) ev_eU ev_PU) ?_ ?_
    · intro x73 hx73 s83 w74 e75 e76 e77 e78 e79 e80 e81 e82
      refine ev_r_istore (pc := 154) (k := 9) (by decide +kernel) (by decide +kernel) rfl ?_
      refine ev_r_iload (pc := 156) (k := 6) (v := Int32.ofInt x25) (by decide +kernel) (by exact (ev_l1 e80 (by decide) (by decide))) ?_
      refine ev_r_jn (Q := fun K => ∀ (x84 : Int) (hx84 : ev_rng x84), ∀ (s93 : ev_St) (w85 : List (Nat × Value)), ev_lk w85 0 = some (.ref 621) → ev_lk w85 2 = some (.int (Int32.ofInt a1)) → ev_lk w85 3 = some (.int (Int32.ofInt x4)) → ev_lk w85 4 = some (.int (Int32.ofInt x5)) → ev_lk w85 5 = some (.int (Int32.ofInt x15)) → ev_lk w85 7 = some (.int (Int32.ofInt x26)) → ev_lk w85 8 = some (.int (Int32.ofInt x27)) → ev_w none (ev_Mof 276) d 181 w85 [.int (Int32.ofInt x84)] s93 (K x84 s93) ev_eU ev_PU) ?_ ?_
      · intro x84 hx84 s93 w85 e86 e87 e88 e89 e90 e91 e92
        refine ev_r_istore (pc := 181) (k := 6) (by decide +kernel) (by decide +kernel) rfl ?_
        refine ev_r_iload (pc := 183) (k := 7) (v := Int32.ofInt x26) (by decide +kernel) (by exact (ev_l1 e91 (by decide) (by decide))) ?_
        refine ev_r_jn (Q := fun K => ∀ (x94 : Int) (hx94 : ev_rng x94), ∀ (x95 : Int) (hx95 : ev_rng x95), ∀ (s104 : ev_St) (w96 : List (Nat × Value)), ev_lk w96 0 = some (.ref 621) → ev_lk w96 2 = some (.int (Int32.ofInt a1)) → ev_lk w96 3 = some (.int (Int32.ofInt x4)) → ev_lk w96 4 = some (.int (Int32.ofInt x5)) → ev_lk w96 5 = some (.int (Int32.ofInt x15)) → ev_lk w96 6 = some (.int (Int32.ofInt x94)) → ev_lk w96 8 = some (.int (Int32.ofInt x27)) → ev_w none (ev_Mof 276) d 205 w96 [.int (Int32.ofInt x95)] s104 (K x94 x95 s104) ev_eU ev_PU) ?_ ?_
        · intro x94 hx94 x95 hx95 s104 w96 e97 e98 e99 e100 e101 e102 e103
          refine ev_r_istore (pc := 205) (k := 7) (by decide +kernel) (by decide +kernel) rfl ?_
          refine ev_r_aload_n (pc := 207) (k := 0) (v := .ref 621) trivial (by decide +kernel) (by exact (ev_l1 e97 (by decide) (by decide))) ?_
          refine ev_r_getC (pc := 208) (y := 25) (ci := 13) (f := 8) (fin := 1) (k' := 627) (by decide +kernel) (by decide +kernel) (by exact ev_ob_621) rfl rfl ?_
          refine ev_r_iload_n (pc := 211) (k := 3) (v := Int32.ofInt x4) (by decide +kernel) (by exact (ev_l1 e99 (by decide) (by decide))) ?_
          refine ev_r_iload (pc := 212) (k := 8) (v := Int32.ofInt x27) (by decide +kernel) (by exact (ev_l1 e103 (by decide) (by decide))) ?_
          refine ev_r_iadd (pc := 214) (by decide +kernel) ?_
          intro x105 hx105
          refine ev_r_iald (pc := 215) hx105 (by decide +kernel) (by exact ev_ab_627) ?_
          intro x106 hx106
          refine ev_r_istore (pc := 216) (k := 8) (by decide +kernel) (by decide +kernel) rfl ?_
          refine ev_r_goto (pc := 218) (o := (-117)) (t := 101) (by decide +kernel) (by decide +kernel) ?_
          exact hK101 x94 hx94 x95 hx95 x106 hx106 s104 _ (by exact (ev_l1 (ev_l1 e97 (by decide) (by decide)) (by decide) (by decide))) (by exact (ev_l1 (ev_l1 e98 (by decide) (by decide)) (by decide) (by decide))) (by exact (ev_l1 (ev_l1 e99 (by decide) (by decide)) (by decide) (by decide))) (by exact (ev_l1 (ev_l1 e100 (by decide) (by decide)) (by decide) (by decide))) (by exact (ev_l1 (ev_l1 e101 (by decide) (by decide)) (by decide) (by decide))) (by exact (ev_l1 (ev_lk_st1 e102 (by decide) rfl) (by decide) (by decide))) (by exact (ev_lk_st1 ev_lk_st1_self (by decide) rfl)) (by exact ev_lk_st1_self)
        · intro K205 hK205
          refine ev_r_jn (Q := fun K => ∀ (x107 : Int) (hx107 : ev_rng x107), ∀ (s116 : ev_St) (w108 : List (Nat × Value)), ev_lk w108 0 = some (.ref 621) → ev_lk w108 2 = some (.int (Int32.ofInt a1)) → ev_lk w108 3 = some (.int (Int32.ofInt x4)) → ev_lk w108 4 = some (.int (Int32.ofInt x5)) → ev_lk w108 5 = some (.int (Int32.ofInt x15)) → ev_lk w108 6 = some (.int (Int32.ofInt x107)) → ev_lk w108 8 = some (.int (Int32.ofInt x27)) → ev_w none (ev_Mof 276) d 204 w108 [] s116 (K x107 s116) ev_eU ev_PU) ?_ ?_
          · intro x107 hx107 s116 w108 e109 e110 e111 e112 e113 e114 e115
            refine ev_r_iconst (pc := 204) (k := 0) (by decide +kernel) ?_
            exact hK205 x107 hx107 0 (by decide) s116 _ (by exact e109) (by exact e110) (by exact e111) (by exact e112) (by exact e113) (by exact e114) (by exact e115)
          · intro K204 hK204
            refine ev_r_if (pc := 185) (q := .eq) (o := 19) (t := 204) (c := x26 = 0) (by decide +kernel) (ev_k_eq hx26 ev_rng0) (by decide +kernel) ?_ ?_
            · intro c117
              exact hK204 x84 hx84 s93 _ (by exact (ev_l1 e86 (by decide) (by decide))) (by exact (ev_l1 e87 (by decide) (by decide))) (by exact (ev_l1 e88 (by decide) (by decide))) (by exact (ev_l1 e89 (by decide) (by decide))) (by exact (ev_lk_st1 e90 (by decide) rfl)) (by exact ev_lk_st1_self) (by exact (ev_l1 e92 (by decide) (by decide)))
            · intro c117
              refine ev_r_aload_n (pc := 188) (k := 0) (v := .ref 621) trivial (by decide +kernel) (by exact (ev_l1 e86 (by decide) (by decide))) ?_
              refine ev_r_getC (pc := 189) (y := 68) (ci := 13) (f := 22) (fin := 1) (k' := 641) (by decide +kernel) (by decide +kernel) (by exact ev_ob_621) rfl rfl ?_
              refine ev_r_iload_n (pc := 192) (k := 3) (v := Int32.ofInt x4) (by decide +kernel) (by exact (ev_l1 e88 (by decide) (by decide))) ?_
              refine ev_r_iload (pc := 193) (k := 8) (v := Int32.ofInt x27) (by decide +kernel) (by exact (ev_l1 e92 (by decide) (by decide))) ?_
              refine ev_r_iadd (pc := 195) (by decide +kernel) ?_
              intro x118 hx118
              refine ev_r_iald (pc := 196) hx118 (by decide +kernel) (by exact ev_ab_641) ?_
              intro x119 hx119
              refine ev_r_if (pc := 197) (q := .ne) (o := 7) (t := 204) (c := x119 ≠ 0) (by decide +kernel) (ev_k_ne hx119 ev_rng0) (by decide +kernel) ?_ ?_
              · intro c120
                exact hK204 x84 hx84 s93 _ (by exact (ev_l1 e86 (by decide) (by decide))) (by exact (ev_l1 e87 (by decide) (by decide))) (by exact (ev_l1 e88 (by decide) (by decide))) (by exact (ev_l1 e89 (by decide) (by decide))) (by exact (ev_lk_st1 e90 (by decide) rfl)) (by exact ev_lk_st1_self) (by exact (ev_l1 e92 (by decide) (by decide)))
              · intro c120
                refine ev_r_iconst (pc := 200) (k := 1) (by decide +kernel) ?_
                refine ev_r_goto (pc := 201) (o := 4) (t := 205) (by decide +kernel) (by decide +kernel) ?_
                exact hK205 x84 hx84 1 (by decide) s93 _ (by exact (ev_l1 e86 (by decide) (by decide))) (by exact (ev_l1 e87 (by decide) (by decide))) (by exact (ev_l1 e88 (by decide) (by decide))) (by exact (ev_l1 e89 (by decide) (by decide))) (by exact (ev_lk_st1 e90 (by decide) rfl)) (by exact ev_lk_st1_self) (by exact (ev_l1 e92 (by decide) (by decide)))
      · intro K181 hK181
        refine ev_r_jn (Q := fun K => ∀ (s129 : ev_St) (w121 : List (Nat × Value)), ev_lk w121 0 = some (.ref 621) → ev_lk w121 2 = some (.int (Int32.ofInt a1)) → ev_lk w121 3 = some (.int (Int32.ofInt x4)) → ev_lk w121 4 = some (.int (Int32.ofInt x5)) → ev_lk w121 5 = some (.int (Int32.ofInt x15)) → ev_lk w121 7 = some (.int (Int32.ofInt x26)) → ev_lk w121 8 = some (.int (Int32.ofInt x27)) → ev_w none (ev_Mof 276) d 176 w121 [] s129 (K  s129) ev_eU ev_PU) ?_ ?_
        · intro  s129 w121 e122 e123 e124 e125 e126 e127 e128
          refine ev_r_iconst (pc := 176) (k := 1) (by decide +kernel) ?_
          refine ev_r_goto (pc := 177) (o := 4) (t := 181) (by decide +kernel) (by decide +kernel) ?_
          exact hK181 1 (by decide) s129 _ (by exact e122) (by exact e123) (by exact e124) (by exact e125) (by exact e126) (by exact e127) (by exact e128)
        · intro K176 hK176
          refine ev_r_if (pc := 158) (q := .ne) (o := 18) (t := 176) (c := x25 ≠ 0) (by decide +kernel) (ev_k_ne hx25 ev_rng0) (by decide +kernel) ?_ ?_
          · intro c130
            exact hK176  s83 _ (by exact (ev_l1 e75 (by decide) (by decide))) (by exact (ev_l1 e76 (by decide) (by decide))) (by exact (ev_l1 e77 (by decide) (by decide))) (by exact (ev_l1 e78 (by decide) (by decide))) (by exact (ev_l1 e79 (by decide) (by decide))) (by exact (ev_l1 e81 (by decide) (by decide))) (by exact (ev_lk_st1 e82 (by decide) rfl))
          · intro c130
            refine ev_r_iload (pc := 161) (k := 9) (v := Int32.ofInt x73) (by decide +kernel) (by exact ev_lk_st1_self) ?_
            refine ev_r_jn (Q := fun K => ∀ (s139 : ev_St) (w131 : List (Nat × Value)), ev_lk w131 0 = some (.ref 621) → ev_lk w131 2 = some (.int (Int32.ofInt a1)) → ev_lk w131 3 = some (.int (Int32.ofInt x4)) → ev_lk w131 4 = some (.int (Int32.ofInt x5)) → ev_lk w131 5 = some (.int (Int32.ofInt x15)) → ev_lk w131 7 = some (.int (Int32.ofInt x26)) → ev_lk w131 8 = some (.int (Int32.ofInt x27)) → ev_w none (ev_Mof 276) d 180 w131 [] s139 (K  s139) ev_eU ev_PU) ?_ ?_
            · intro  s139 w131 e132 e133 e134 e135 e136 e137 e138
              refine ev_r_iconst (pc := 180) (k := 0) (by decide +kernel) ?_
              exact hK181 0 (by decide) s139 _ (by exact e132) (by exact e133) (by exact e134) (by exact e135) (by exact e136) (by exact e137) (by exact e138)
            · intro K180 hK180
              refine ev_r_if (pc := 163) (q := .eq) (o := 17) (t := 180) (c := x73 = 0) (by decide +kernel) (ev_k_eq hx73 ev_rng0) (by decide +kernel) ?_ ?_
              · intro c140
                exact hK180  s83 _ (by exact (ev_l1 e75 (by decide) (by decide))) (by exact (ev_l1 e76 (by decide) (by decide))) (by exact (ev_l1 e77 (by decide) (by decide))) (by exact (ev_l1 e78 (by decide) (by decide))) (by exact (ev_l1 e79 (by decide) (by decide))) (by exact (ev_l1 e81 (by decide) (by decide))) (by exact (ev_lk_st1 e82 (by decide) rfl))
              · intro c140
                refine ev_r_aload_n (pc := 166) (k := 0) (v := .ref 621) trivial (by decide +kernel) (by exact (ev_l1 e75 (by decide) (by decide))) ?_
                refine ev_r_getC (pc := 167) (y := 120) (ci := 13) (f := 50) (fin := 1) (k' := 658) (by decide +kernel) (by decide +kernel) (by exact ev_ob_621) rfl rfl ?_
                refine ev_r_iload (pc := 170) (k := 8) (v := Int32.ofInt x27) (by decide +kernel) (by exact (ev_lk_st1 e82 (by decide) rfl)) ?_
                refine ev_r_bald (pc := 172) (ty := .boolean) (Or.inr rfl) hx27 (by decide +kernel) (by exact ev_ab_658) ?_
                intro x141 hx141
                refine ev_r_if (pc := 173) (q := .eq) (o := 7) (t := 180) (c := x141 = 0) (by decide +kernel) (ev_k_eq hx141 ev_rng0) (by decide +kernel) ?_ ?_
                · intro c142
                  exact hK180  s83 _ (by exact (ev_l1 e75 (by decide) (by decide))) (by exact (ev_l1 e76 (by decide) (by decide))) (by exact (ev_l1 e77 (by decide) (by decide))) (by exact (ev_l1 e78 (by decide) (by decide))) (by exact (ev_l1 e79 (by decide) (by decide))) (by exact (ev_l1 e81 (by decide) (by decide))) (by exact (ev_lk_st1 e82 (by decide) rfl))
                · intro c142
                  exact hK176  s83 _ (by exact (ev_l1 e75 (by decide) (by decide))) (by exact (ev_l1 e76 (by decide) (by decide))) (by exact (ev_l1 e77 (by decide) (by decide))) (by exact (ev_l1 e78 (by decide) (by decide))) (by exact (ev_l1 e79 (by decide) (by decide))) (by exact (ev_l1 e81 (by decide) (by decide))) (by exact (ev_lk_st1 e82 (by decide) rfl))
    · intro K154 hK154
      refine ev_r_icmp (pc := 116) (q := .ne) (o := 8) (t := 124) (c := x72 ≠ 18) (by decide +kernel) (ev_k_ne hx72 (by decide)) (by decide +kernel) ?_ ?_
      · intro c143
        refine ev_r_aload_n (pc := 124) (k := 0) (v := .ref 621) trivial (by decide +kernel) (by exact e29) ?_
        refine ev_r_getC (pc := 125) (y := 19) (ci := 13) (f := 6) (fin := 1) (k' := 625) (by decide +kernel) (by decide +kernel) (by exact ev_ob_621) rfl rfl ?_
        refine ev_r_iload (pc := 128) (k := 5) (v := Int32.ofInt x15) (by decide +kernel) (by exact e33) ?_
        refine ev_r_iald (pc := 130) hx15 (by decide +kernel) (by exact ev_ab_625) ?_
        intro x144 hx144
        refine ev_r_stat (pc := 131) (y := 504) (kind := 2) (mi := 267) (na := 1) (as := [.int (Int32.ofInt x144)]) (rest := []) (encc := ev_oI) (Q := ev_bl) (fun x S1 h => jt_267 d (by omega) Q x144 hx144 s37 x S1 h) (Or.inl rfl) (by decide +kernel) (by decide +kernel) (by decide +kernel) (by decide +kernel) rfl (by (try simp only [ev_sum, ev_nv_cat]); first | done | rfl) ?_
        intro x146 s145 hx146
        replace hx146 := ev_bl_rng hx146
        show ev_w _ _ _ _ _ [.int (Int32.ofInt x146)] _ _ _ _
        refine ev_r_jn (Q := fun K => ∀ (s156 : ev_St) (w147 : List (Nat × Value)), ev_lk w147 0 = some (.ref 621) → ev_lk w147 2 = some (.int (Int32.ofInt a1)) → ev_lk w147 3 = some (.int (Int32.ofInt x4)) → ev_lk w147 4 = some (.int (Int32.ofInt x5)) → ev_lk w147 5 = some (.int (Int32.ofInt x15)) → ev_lk w147 6 = some (.int (Int32.ofInt x25)) → ev_lk w147 7 = some (.int (Int32.ofInt x26)) → ev_lk w147 8 = some (.int (Int32.ofInt x27)) → ev_w none (ev_Mof 276) d 149 w147 [] s156 (K  s156) ev_eU ev_PU) ?_ ?_
        · intro  s156 w147 e148 e149 e150 e151 e152 e153 e154 e155
          refine ev_r_iconst (pc := 149) (k := 1) (by decide +kernel) ?_
          refine ev_r_goto (pc := 150) (o := 4) (t := 154) (by decide +kernel) (by decide +kernel) ?_
          exact hK154 1 (by decide) s156 _ (by exact e148) (by exact e149) (by exact e150) (by exact e151) (by exact e152) (by exact e153) (by exact e154) (by exact e155)
        · intro K149 hK149
          refine ev_r_if (pc := 134) (q := .ne) (o := 15) (t := 149) (c := x146 ≠ 0) (by decide +kernel) (ev_k_ne hx146 ev_rng0) (by decide +kernel) ?_ ?_
          · intro c157
            exact hK149  s145 _ (by exact e29) (by exact e30) (by exact e31) (by exact e32) (by exact e33) (by exact e34) (by exact e35) (by exact e36)
          · intro c157
            refine ev_r_aload_n (pc := 137) (k := 0) (v := .ref 621) trivial (by decide +kernel) (by exact e29) ?_
            refine ev_r_getC (pc := 138) (y := 19) (ci := 13) (f := 6) (fin := 1) (k' := 625) (by decide +kernel) (by decide +kernel) (by exact ev_ob_621) rfl rfl ?_
            refine ev_r_iload (pc := 141) (k := 5) (v := Int32.ofInt x15) (by decide +kernel) (by exact e33) ?_
            refine ev_r_iald (pc := 143) hx15 (by decide +kernel) (by exact ev_ab_625) ?_
            intro x158 hx158
            refine ev_r_bipush (pc := 144) (k := 13) (by decide +kernel) (by decide +kernel) ?_
            refine ev_r_icmp (pc := 146) (q := .ne) (o := 7) (t := 153) (c := x158 ≠ 13) (by decide +kernel) (ev_k_ne hx158 (by decide)) (by decide +kernel) ?_ ?_
            · intro c159
              refine ev_r_iconst (pc := 153) (k := 0) (by decide +kernel) ?_
              exact hK154 0 (by decide) s145 _ (by exact e29) (by exact e30) (by exact e31) (by exact e32) (by exact e33) (by exact e34) (by exact e35) (by exact e36)
            · intro c159
              exact hK149  s145 _ (by exact e29) (by exact e30) (by exact e31) (by exact e32) (by exact e33) (by exact e34) (by exact e35) (by exact e36)
      · intro c143
        refine ev_r_iload (pc := 119) (k := 7) (v := Int32.ofInt x26) (by decide +kernel) (by exact e35) ?_
        refine ev_r_goto (pc := 121) (o := 33) (t := 154) (by decide +kernel) (by decide +kernel) ?_
        exact hK154 x26 hx26 s37 _ (by exact e29) (by exact e30) (by exact e31) (by exact e32) (by exact e33) (by exact e34) (by exact e35) (by exact e36)
theorem jlt_276_101 (d : Nat) (hd : 3 ≤ d + 1) (Q : Nat) (a1 : Int) (x4 : Int) (x5 : Int) (x15 : Int) (ha1 : ev_rng a1) (hx4 : ev_rng x4) (hx5 : ev_rng x5) (hx15 : ev_rng x15) (K16 : Int → Int → ev_St → Option ((Unit) × ev_St)) (hK16 : ∀ (x4 : Int) (hx4 : ev_rng x4), ∀ (x5 : Int) (hx5 : ev_rng x5), ∀ (s11 : ev_St) (w6 : List (Nat × Value)), ev_lk w6 0 = some (.ref 621) → ev_lk w6 2 = some (.int (Int32.ofInt a1)) → ev_lk w6 3 = some (.int (Int32.ofInt x4)) → ev_lk w6 4 = some (.int (Int32.ofInt x5)) → ev_w none (ev_Mof 276) d 16 w6 [] s11 (K16 x4 x5 s11) ev_eU ev_PU) : ∀ q : Nat, ∀ (x25 : Int) (hx25 : ev_rng x25), ∀ (x26 : Int) (hx26 : ev_rng x26), ∀ (x27 : Int) (hx27 : ev_rng x27), ∀ (s37 : ev_St) (w28 : List (Nat × Value)), ev_lk w28 0 = some (.ref 621) → ev_lk w28 2 = some (.int (Int32.ofInt a1)) → ev_lk w28 3 = some (.int (Int32.ofInt x4)) → ev_lk w28 4 = some (.int (Int32.ofInt x5)) → ev_lk w28 5 = some (.int (Int32.ofInt x15)) → ev_lk w28 6 = some (.int (Int32.ofInt x25)) → ev_lk w28 7 = some (.int (Int32.ofInt x26)) → ev_lk w28 8 = some (.int (Int32.ofInt x27)) → ev_w none (ev_Mof 276) d 101 w28 [] s37 (jl_276_101 Q a1 x4 x5 x15 K16 q x25 x26 x27 s37) ev_eU ev_PU := by
  intro q
  induction q with
  | zero =>
    intro x25 hx25 x26 hx26 x27 hx27 s37 w28 e29 e30 e31 e32 e33 e34 e35 e36
    exact ev_w_none
  | succ q ih => exact jbt_276_101 d hd Q a1 x4 x5 x15 ha1 hx4 hx5 hx15 K16 hK16 _ ih
def jb_276_16 (Q : Nat) (a1 : Int)  (K16 : Int → Int → ev_St → Option ((Unit) × ev_St)) (x4 : Int) (x5 : Int) (s11 : ev_St) : Option ((Unit) × ev_St) := if x5 < 0 then (some ((), s11)) else (ev_ck (x4 + x5) fun x13 => ev_if ((0 : Int) ≤ x13 ∧ x13 < (ev_aln 625 : Int)) (ev_b (s11.1 625 (Int.toNat x13)) fun x14 => ev_jn (fun (x15 : Int) (x16 : Int) (s23 : ev_St) => ev_if ((0 : Int) ≤ x15 ∧ x15 < (ev_aln 626 : Int)) (ev_b (s23.1 626 (Int.toNat x15)) fun x24 => jl_276_101 Q a1 x4 x5 x15 K16 Q x16 1 x24 s23)) fun K87 => if x14 ≠ 0 then (ev_if ((0 : Int) ≤ x13 ∧ x13 < (ev_aln 625 : Int)) (ev_b (s11.1 625 (Int.toNat x13)) fun x161 => ev_jn (fun  (s168 : ev_St) => K87 x13 1 s168) fun K82 => if x161 = 7 then (K82  s11) else (ev_if ((0 : Int) ≤ x13 ∧ x13 < (ev_aln 625 : Int)) (ev_b (s11.1 625 (Int.toNat x13)) fun x170 => if x170 ≠ 14 then (K87 x13 0 s11) else (K82  s11))))) else (ev_if ((0 : Int) ≤ x13 ∧ x13 < (ev_aln 633 : Int)) (ev_b (s11.2.1 633 (Int.toNat x13)) fun y172 => ev_if ((0 : Int) ≤ x13 ∧ x13 < (ev_aln 634 : Int)) (ev_b (s11.2.1 634 (Int.toNat x13)) fun y173 => ev_bd (jm_244 Q y172 y173 a1 s11) fun x175 s174 => K87 x13 x175 s174)))))
def jl_276_16 (Q : Nat) (a1 : Int)  : Nat → Int → Int → ev_St → Option ((Unit) × ev_St)
  | 0 => fun _ _ _ => none
  | q + 1 => jb_276_16 Q a1  (jl_276_16 Q a1  q)
theorem jbt_276_16 (d : Nat) (hd : 3 ≤ d + 1) (Q : Nat) (a1 : Int) (ha1 : ev_rng a1)   (K16 : Int → Int → ev_St → Option ((Unit) × ev_St)) (hK16 : ∀ (x4 : Int) (hx4 : ev_rng x4), ∀ (x5 : Int) (hx5 : ev_rng x5), ∀ (s11 : ev_St) (w6 : List (Nat × Value)), ev_lk w6 0 = some (.ref 621) → ev_lk w6 2 = some (.int (Int32.ofInt a1)) → ev_lk w6 3 = some (.int (Int32.ofInt x4)) → ev_lk w6 4 = some (.int (Int32.ofInt x5)) → ev_w none (ev_Mof 276) d 16 w6 [] s11 (K16 x4 x5 s11) ev_eU ev_PU) : ∀ (x4 : Int) (hx4 : ev_rng x4), ∀ (x5 : Int) (hx5 : ev_rng x5), ∀ (s11 : ev_St) (w6 : List (Nat × Value)), ev_lk w6 0 = some (.ref 621) → ev_lk w6 2 = some (.int (Int32.ofInt a1)) → ev_lk w6 3 = some (.int (Int32.ofInt x4)) → ev_lk w6 4 = some (.int (Int32.ofInt x5)) → ev_w none (ev_Mof 276) d 16 w6 [] s11 (jb_276_16 Q a1  K16 x4 x5 s11) ev_eU ev_PU := by
  intro x4 hx4 x5 hx5 s11 w6 e7 e8 e9 e10
  unfold jb_276_16
  refine ev_r_iload (pc := 16) (k := 4) (v := Int32.ofInt x5) (by decide +kernel) (by exact e10) ?_
  refine ev_r_if (pc := 18) (q := .lt) (o := 247) (t := 265) (c := x5 < 0) (by decide +kernel) (ev_k_lt hx5 ev_rng0) (by decide +kernel) ?_ ?_
  · intro c12
    exact ev_r_return (pc := 265) (x := ()) trivial (by decide +kernel) (by decide +kernel) rfl
  · intro c12
    refine ev_r_iload_n (pc := 21) (k := 3) (v := Int32.ofInt x4) (by decide +kernel) (by exact e9) ?_
    refine ev_r_iload (pc := 22) (k := 4) (v := Int32.ofInt x5) (by decide +kernel) (by exact e10) ?_
    refine ev_r_iadd (pc := 24) (by decide +kernel) ?_
    intro x13 hx13
    refine ev_r_istore (pc := 25) (k := 5) (by decide +kernel) (by decide +kernel) rfl ?_
    refine ev_r_aload_n (pc := 27) (k := 0) (v := .ref 621) trivial (by decide +kernel) (by exact (ev_l1 e7 (by decide) (by decide))) ?_
    refine ev_r_getC (pc := 28) (y := 19) (ci := 13) (f := 6) (fin := 1) (k' := 625) (by decide +kernel) (by decide +kernel) (by exact ev_ob_621) rfl rfl ?_
    refine ev_r_iload (pc := 31) (k := 5) (v := Int32.ofInt x13) (by decide +kernel) (by exact ev_lk_st1_self) ?_
    refine ev_r_iald (pc := 33) hx13 (by decide +kernel) (by exact ev_ab_625) ?_
    intro x14 hx14
    refine ev_r_jn (Q := fun K => ∀ (x15 : Int) (hx15 : ev_rng x15), ∀ (x16 : Int) (hx16 : ev_rng x16), ∀ (s23 : ev_St) (w17 : List (Nat × Value)), ev_lk w17 0 = some (.ref 621) → ev_lk w17 2 = some (.int (Int32.ofInt a1)) → ev_lk w17 3 = some (.int (Int32.ofInt x4)) → ev_lk w17 4 = some (.int (Int32.ofInt x5)) → ev_lk w17 5 = some (.int (Int32.ofInt x15)) → ev_w none (ev_Mof 276) d 87 w17 [.int (Int32.ofInt x16)] s23 (K x15 x16 s23) ev_eU ev_PU) ?_ ?_
    · intro x15 hx15 x16 hx16 s23 w17 e18 e19 e20 e21 e22
      refine ev_r_istore (pc := 87) (k := 6) (by decide +kernel) (by decide +kernel) rfl ?_
      refine ev_r_iconst (pc := 89) (k := 1) (by decide +kernel) ?_
      refine ev_r_istore (pc := 90) (k := 7) (by decide +kernel) (by decide +kernel) rfl ?_
      refine ev_r_aload_n (pc := 92) (k := 0) (v := .ref 621) trivial (by decide +kernel) (by exact (ev_l1 (ev_l1 e18 (by decide) (by decide)) (by decide) (by decide))) ?_
      refine ev_r_getC (pc := 93) (y := 22) (ci := 13) (f := 7) (fin := 1) (k' := 626) (by decide +kernel) (by decide +kernel) (by exact ev_ob_621) rfl rfl ?_
      refine ev_r_iload (pc := 96) (k := 5) (v := Int32.ofInt x15) (by decide +kernel) (by exact (ev_l1 (ev_lk_st1 e22 (by decide) rfl) (by decide) (by decide))) ?_
      refine ev_r_iald (pc := 98) hx15 (by decide +kernel) (by exact ev_ab_626) ?_
      intro x24 hx24
      refine ev_r_istore (pc := 99) (k := 8) (by decide +kernel) (by decide +kernel) rfl ?_
      exact jlt_276_101 d hd Q a1 x4 x5 x15 ha1 hx4 hx5 hx15 K16 hK16 Q x16 hx16 1 (by decide) x24 hx24 s23 _ (by exact (ev_l1 (ev_l1 (ev_l1 e18 (by decide) (by decide)) (by decide) (by decide)) (by decide) (by decide))) (by exact (ev_l1 (ev_l1 (ev_l1 e19 (by decide) (by decide)) (by decide) (by decide)) (by decide) (by decide))) (by exact (ev_l1 (ev_l1 (ev_l1 e20 (by decide) (by decide)) (by decide) (by decide)) (by decide) (by decide))) (by exact (ev_l1 (ev_l1 (ev_l1 e21 (by decide) (by decide)) (by decide) (by decide)) (by decide) (by decide))) (by exact (ev_l1 (ev_l1 (ev_lk_st1 e22 (by decide) rfl) (by decide) (by decide)) (by decide) (by decide))) (by exact (ev_l1 (ev_lk_st1 ev_lk_st1_self (by decide) rfl) (by decide) (by decide))) (by exact (ev_lk_st1 ev_lk_st1_self (by decide) rfl)) (by exact ev_lk_st1_self)
    · intro K87 hK87
      refine ev_r_if (pc := 34) (q := .ne) (o := 24) (t := 58) (c := x14 ≠ 0) (by decide +kernel) (ev_k_ne hx14 ev_rng0) (by decide +kernel) ?_ ?_
      · intro c160
        refine ev_r_aload_n (pc := 58) (k := 0) (v := .ref 621) trivial (by decide +kernel) (by exact (ev_l1 e7 (by decide) (by decide))) ?_
        refine ev_r_getC (pc := 59) (y := 19) (ci := 13) (f := 6) (fin := 1) (k' := 625) (by decide +kernel) (by decide +kernel) (by exact ev_ob_621) rfl rfl ?_
        refine ev_r_iload (pc := 62) (k := 5) (v := Int32.ofInt x13) (by decide +kernel) (by exact ev_lk_st1_self) ?_
        refine ev_r_iald (pc := 64) hx13 (by decide +kernel) (by exact ev_ab_625) ?_
        intro x161 hx161
        refine ev_r_bipush (pc := 65) (k := 7) (by decide +kernel) (by decide +kernel) ?_
        refine ev_r_jn (Q := fun K => ∀ (s168 : ev_St) (w162 : List (Nat × Value)), ev_lk w162 0 = some (.ref 621) → ev_lk w162 2 = some (.int (Int32.ofInt a1)) → ev_lk w162 3 = some (.int (Int32.ofInt x4)) → ev_lk w162 4 = some (.int (Int32.ofInt x5)) → ev_lk w162 5 = some (.int (Int32.ofInt x13)) → ev_w none (ev_Mof 276) d 82 w162 [] s168 (K  s168) ev_eU ev_PU) ?_ ?_
        · intro  s168 w162 e163 e164 e165 e166 e167
          refine ev_r_iconst (pc := 82) (k := 1) (by decide +kernel) ?_
          refine ev_r_goto (pc := 83) (o := 4) (t := 87) (by decide +kernel) (by decide +kernel) ?_
          exact hK87 x13 hx13 1 (by decide) s168 _ (by exact e163) (by exact e164) (by exact e165) (by exact e166) (by exact e167)
        · intro K82 hK82
          refine ev_r_icmp (pc := 67) (q := .eq) (o := 15) (t := 82) (c := x161 = 7) (by decide +kernel) (ev_k_eq hx161 (by decide)) (by decide +kernel) ?_ ?_
          · intro c169
            exact hK82  s11 _ (by exact (ev_l1 e7 (by decide) (by decide))) (by exact (ev_l1 e8 (by decide) (by decide))) (by exact (ev_l1 e9 (by decide) (by decide))) (by exact (ev_lk_st1 e10 (by decide) rfl)) (by exact ev_lk_st1_self)
          · intro c169
            refine ev_r_aload_n (pc := 70) (k := 0) (v := .ref 621) trivial (by decide +kernel) (by exact (ev_l1 e7 (by decide) (by decide))) ?_
            refine ev_r_getC (pc := 71) (y := 19) (ci := 13) (f := 6) (fin := 1) (k' := 625) (by decide +kernel) (by decide +kernel) (by exact ev_ob_621) rfl rfl ?_
            refine ev_r_iload (pc := 74) (k := 5) (v := Int32.ofInt x13) (by decide +kernel) (by exact ev_lk_st1_self) ?_
            refine ev_r_iald (pc := 76) hx13 (by decide +kernel) (by exact ev_ab_625) ?_
            intro x170 hx170
            refine ev_r_bipush (pc := 77) (k := 14) (by decide +kernel) (by decide +kernel) ?_
            refine ev_r_icmp (pc := 79) (q := .ne) (o := 7) (t := 86) (c := x170 ≠ 14) (by decide +kernel) (ev_k_ne hx170 (by decide)) (by decide +kernel) ?_ ?_
            · intro c171
              refine ev_r_iconst (pc := 86) (k := 0) (by decide +kernel) ?_
              exact hK87 x13 hx13 0 (by decide) s11 _ (by exact (ev_l1 e7 (by decide) (by decide))) (by exact (ev_l1 e8 (by decide) (by decide))) (by exact (ev_l1 e9 (by decide) (by decide))) (by exact (ev_lk_st1 e10 (by decide) rfl)) (by exact ev_lk_st1_self)
            · intro c171
              exact hK82  s11 _ (by exact (ev_l1 e7 (by decide) (by decide))) (by exact (ev_l1 e8 (by decide) (by decide))) (by exact (ev_l1 e9 (by decide) (by decide))) (by exact (ev_lk_st1 e10 (by decide) rfl)) (by exact ev_lk_st1_self)
      · intro c160
        refine ev_r_aload_n (pc := 37) (k := 0) (v := .ref 621) trivial (by decide +kernel) (by exact (ev_l1 e7 (by decide) (by decide))) ?_
        refine ev_r_getC (pc := 38) (y := 43) (ci := 13) (f := 14) (fin := 1) (k' := 633) (by decide +kernel) (by decide +kernel) (by exact ev_ob_621) rfl rfl ?_
        refine ev_r_iload (pc := 41) (k := 5) (v := Int32.ofInt x13) (by decide +kernel) (by exact ev_lk_st1_self) ?_
        refine ev_r_lald (pc := 43) hx13 (by decide +kernel) (by exact ev_ab_633) ?_
        intro y172
        refine ev_r_aload_n (pc := 44) (k := 0) (v := .ref 621) trivial (by decide +kernel) (by exact (ev_l1 e7 (by decide) (by decide))) ?_
        refine ev_r_getC (pc := 45) (y := 47) (ci := 13) (f := 15) (fin := 1) (k' := 634) (by decide +kernel) (by decide +kernel) (by exact ev_ob_621) rfl rfl ?_
        refine ev_r_iload (pc := 48) (k := 5) (v := Int32.ofInt x13) (by decide +kernel) (by exact ev_lk_st1_self) ?_
        refine ev_r_lald (pc := 50) hx13 (by decide +kernel) (by exact ev_ab_634) ?_
        intro y173
        refine ev_r_iload_n (pc := 51) (k := 2) (v := Int32.ofInt a1) (by decide +kernel) (by exact (ev_l1 e8 (by decide) (by decide))) ?_
        refine ev_r_stat (pc := 52) (y := 534) (kind := 2) (mi := 244) (na := 3) (as := [.long y172, .long y173, .int (Int32.ofInt a1)]) (rest := []) (encc := ev_oI) (Q := ev_bl) (fun x S1 h => jt_244 d (by omega) Q y172 y173 a1 ha1 s11 x S1 h) (Or.inl rfl) (by decide +kernel) (by decide +kernel) (by decide +kernel) (by decide +kernel) rfl (by (try simp only [ev_sum, ev_nv_cat]); first | done | rfl) ?_
        intro x175 s174 hx175
        replace hx175 := ev_bl_rng hx175
        show ev_w _ _ _ _ _ [.int (Int32.ofInt x175)] _ _ _ _
        refine ev_r_goto (pc := 55) (o := 32) (t := 87) (by decide +kernel) (by decide +kernel) ?_
        exact hK87 x13 hx13 x175 hx175 s174 _ (by exact (ev_l1 e7 (by decide) (by decide))) (by exact (ev_l1 e8 (by decide) (by decide))) (by exact (ev_l1 e9 (by decide) (by decide))) (by exact (ev_lk_st1 e10 (by decide) rfl)) (by exact ev_lk_st1_self)
theorem jlt_276_16 (d : Nat) (hd : 3 ≤ d + 1) (Q : Nat) (a1 : Int) (ha1 : ev_rng a1)   : ∀ q : Nat, ∀ (x4 : Int) (hx4 : ev_rng x4), ∀ (x5 : Int) (hx5 : ev_rng x5), ∀ (s11 : ev_St) (w6 : List (Nat × Value)), ev_lk w6 0 = some (.ref 621) → ev_lk w6 2 = some (.int (Int32.ofInt a1)) → ev_lk w6 3 = some (.int (Int32.ofInt x4)) → ev_lk w6 4 = some (.int (Int32.ofInt x5)) → ev_w none (ev_Mof 276) d 16 w6 [] s11 (jl_276_16 Q a1  q x4 x5 s11) ev_eU ev_PU := by
  intro q
  induction q with
  | zero =>
    intro x4 hx4 x5 hx5 s11 w6 e7 e8 e9 e10
    exact ev_w_none
  | succ q ih => exact jbt_276_16 d hd Q a1 ha1   _ ih
/-- MendBenchModel.marksBegins(II)V -/
def jm_276 (Q : Nat) (a0 : Int) (a1 : Int) (S : ev_St) : Option ((Unit) × ev_St) := ev_ck (320 * a0) fun x1 => ev_if ((0 : Int) ≤ a0 ∧ a0 < (ev_aln 635 : Int)) (ev_b (S.1 635 (Int.toNat a0)) fun x2 => ev_ck (x2 - 1) fun x3 => jl_276_16 Q a1  Q x1 x3 S)
theorem jt_276 (d : Nat) (hd : 3 ≤ d) (Q : Nat) (a0 : Int) (a1 : Int) (ha0 : ev_rng a0) (ha1 : ev_rng a1) (S : ev_St) (x : Unit) (S' : ev_St) (hJ : jm_276 Q a0 a1 S = some (x, S')) : ev_Ref d 276 [.ref 621, .int (Int32.ofInt a0), .int (Int32.ofInt a1)] S (ev_eU x) S' (ev_PU x) := by
  obtain ⟨d, rfl⟩ : ∃ e, d = e + 1 := ⟨d - 1, by omega⟩
  refine ev_ref_of (P := ev_PU) (lv := [(0, .ref 621), (1, .int (Int32.ofInt a0)), (2, .int (Int32.ofInt a1))]) (by decide +kernel) (by (try simp only [ev_sum, ev_nv_cat]); first | done | rfl) (by (try simp only [lv_args, ev_nv_cat]); first | done | rfl) ?_ x S' hJ
  unfold jm_276
  refine ev_r_sipush (pc := 0) (k := 320) (by decide +kernel) (by decide +kernel) ?_
  refine ev_r_iload_n (pc := 3) (k := 1) (v := Int32.ofInt a0) (by decide +kernel) (by rfl) ?_
  refine ev_r_imul (pc := 4) (by decide +kernel) ?_
  intro x1 hx1
  refine ev_r_istore_n (pc := 5) (k := 3) (by decide +kernel) (by decide +kernel) rfl ?_
  refine ev_r_aload_n (pc := 6) (k := 0) (v := .ref 621) trivial (by decide +kernel) (by exact (ev_l1 (by rfl) (by decide) (by decide))) ?_
  refine ev_r_getC (pc := 7) (y := 50) (ci := 13) (f := 16) (fin := 1) (k' := 635) (by decide +kernel) (by decide +kernel) (by exact ev_ob_621) rfl rfl ?_
  refine ev_r_iload_n (pc := 10) (k := 1) (v := Int32.ofInt a0) (by decide +kernel) (by exact (ev_l1 (by rfl) (by decide) (by decide))) ?_
  refine ev_r_iald (pc := 11) ha0 (by decide +kernel) (by exact ev_ab_635) ?_
  intro x2 hx2
  refine ev_r_iconst (pc := 12) (k := 1) (by decide +kernel) ?_
  refine ev_r_isub (pc := 13) (by decide +kernel) ?_
  intro x3 hx3
  refine ev_r_istore (pc := 14) (k := 4) (by decide +kernel) (by decide +kernel) rfl ?_
  exact jlt_276_16 d hd Q a1 ha1   Q x1 hx1 x3 hx3 S _ (by exact (ev_l1 (ev_l1 (by rfl) (by decide) (by decide)) (by decide) (by decide))) (by exact (ev_l1 (ev_lk_st1 (by rfl) (by decide) rfl) (by decide) (by decide))) (by exact (ev_lk_st1 ev_lk_st1_self (by decide) rfl)) (by exact ev_lk_st1_self)
/-- MendBenchModel.begins(II)Z -/
def jm_277 (Q : Nat) (a0 : Int) (a1 : Int) (S : ev_St) : Option ((Int) × ev_St) := ev_bd (jm_273 Q a0 S) fun x2 s1 => ev_jn (fun (x3 : Int) (s8 : ev_St) => ev_b (ev_pI s8 621 0 x3) fun s9 => ev_b (s9.1 621 0) fun x10 => if x10 ≤ 0 then (ev_bd (jm_276 Q a0 a1 s9) fun _ s12 => ev_if ((0 : Int) ≤ 0 ∧ 0 < (ev_aln 658 : Int)) (ev_b (s12.1 658 (Int.toNat 0)) fun x13 => if x13 ≠ 0 then (some (1, s12)) else (ev_ck (320 * a0) fun x15 => ev_if ((0 : Int) ≤ x15 ∧ x15 < (ev_aln 641 : Int)) (ev_b (s12.1 641 (Int.toNat x15)) fun x16 => if x16 ≠ 0 then (some (0, s12)) else (some (1, s12)))))) else (some (0, s9))) fun K25 => if x2 ≠ 0 then (ev_bd (jm_223 Q a1 s1) fun x20 s19 => if x20 = 0 then (K25 2 s19) else (K25 0 s19)) else (K25 1 s1)
theorem jt_277 (d : Nat) (hd : 4 ≤ d) (Q : Nat) (a0 : Int) (a1 : Int) (ha0 : ev_rng a0) (ha1 : ev_rng a1) (S : ev_St) (x : Int) (S' : ev_St) (hJ : jm_277 Q a0 a1 S = some (x, S')) : ev_Ref d 277 [.ref 621, .int (Int32.ofInt a0), .int (Int32.ofInt a1)] S (ev_eI x) S' (ev_bl x) := by
  obtain ⟨d, rfl⟩ : ∃ e, d = e + 1 := ⟨d - 1, by omega⟩
  refine ev_ref_of (P := ev_bl) (lv := [(0, .ref 621), (1, .int (Int32.ofInt a0)), (2, .int (Int32.ofInt a1))]) (by decide +kernel) (by (try simp only [ev_sum, ev_nv_cat]); first | done | rfl) (by (try simp only [lv_args, ev_nv_cat]); first | done | rfl) ?_ x S' hJ
  unfold jm_277
  refine ev_r_aload_n (pc := 0) (k := 0) (v := .ref 621) trivial (by decide +kernel) (by rfl) ?_
  refine ev_r_aload_n (pc := 1) (k := 0) (v := .ref 621) trivial (by decide +kernel) (by rfl) ?_
  refine ev_r_iload_n (pc := 2) (k := 1) (v := Int32.ofInt a0) (by decide +kernel) (by rfl) ?_
  refine ev_r_virt (pc := 3) (y := 531) (mi := 273) (na := 1) (k := 621) (as := [.int (Int32.ofInt a0)]) (rest := [.ref 621]) (encc := ev_oI) (Q := ev_bl) (fun x S1 h => jt_273 d (by omega) Q a0 ha0 S x S1 h) (by exact ev_ob_621) (by decide +kernel) (by decide +kernel) (by decide +kernel) (by decide +kernel) rfl (by (try simp only [ev_sum, ev_nv_cat]); first | done | rfl) ?_
  intro x2 s1 hx2
  replace hx2 := ev_bl_rng hx2
  show ev_w _ _ _ _ _ [.int (Int32.ofInt x2), .ref 621] _ _ _ _
  refine ev_r_jn (Q := fun K => ∀ (x3 : Int) (hx3 : ev_rng x3), ∀ (s8 : ev_St) (w4 : List (Nat × Value)), ev_lk w4 0 = some (.ref 621) → ev_lk w4 1 = some (.int (Int32.ofInt a0)) → ev_lk w4 2 = some (.int (Int32.ofInt a1)) → ev_w none (ev_Mof 277) d 25 w4 [.int (Int32.ofInt x3), .ref 621] s8 (K x3 s8) ev_eI ev_bl) ?_ ?_
  · intro x3 hx3 s8 w4 e5 e6 e7
    refine ev_r_putI (pc := 25) (y := 321) (ci := 13) (f := 0) hx3 (by decide +kernel) (by decide +kernel) (by exact ev_ob_621) rfl rfl ?_
    intro s9
    refine ev_r_aload_n (pc := 28) (k := 0) (v := .ref 621) trivial (by decide +kernel) (by exact e5) ?_
    refine ev_r_getI (pc := 29) (y := 321) (ci := 13) (f := 0) (fin := 0) (by decide +kernel) (by decide +kernel) (by exact ev_ob_621) rfl ?_
    intro x10 hx10
    refine ev_r_if (pc := 32) (q := .le) (o := 5) (t := 37) (c := x10 ≤ 0) (by decide +kernel) (ev_k_le hx10 ev_rng0) (by decide +kernel) ?_ ?_
    · intro c11
      refine ev_r_aload_n (pc := 37) (k := 0) (v := .ref 621) trivial (by decide +kernel) (by exact e5) ?_
      refine ev_r_iload_n (pc := 38) (k := 1) (v := Int32.ofInt a0) (by decide +kernel) (by exact e6) ?_
      refine ev_r_iload_n (pc := 39) (k := 2) (v := Int32.ofInt a1) (by decide +kernel) (by exact e7) ?_
      refine ev_r_virt (pc := 40) (y := 538) (mi := 276) (na := 2) (k := 621) (as := [.int (Int32.ofInt a0), .int (Int32.ofInt a1)]) (rest := []) (encc := ev_oU) (Q := ev_PU) (fun x S1 h => jt_276 d (by omega) Q a0 a1 ha0 ha1 s9 x S1 h) (by exact ev_ob_621) (by decide +kernel) (by decide +kernel) (by decide +kernel) (by decide +kernel) rfl (by (try simp only [ev_sum, ev_nv_cat]); first | done | rfl) ?_
      intro _ s12 _
      show ev_w _ _ _ _ _ [] _ _ _ _
      refine ev_r_aload_n (pc := 43) (k := 0) (v := .ref 621) trivial (by decide +kernel) (by exact e5) ?_
      refine ev_r_getC (pc := 44) (y := 120) (ci := 13) (f := 50) (fin := 1) (k' := 658) (by decide +kernel) (by decide +kernel) (by exact ev_ob_621) rfl rfl ?_
      refine ev_r_iconst (pc := 47) (k := 0) (by decide +kernel) ?_
      refine ev_r_bald (pc := 48) (ty := .boolean) (Or.inr rfl) (by decide) (by decide +kernel) (by exact ev_ab_658) ?_
      intro x13 hx13
      refine ev_r_if (pc := 49) (q := .ne) (o := 16) (t := 65) (c := x13 ≠ 0) (by decide +kernel) (ev_k_ne hx13 ev_rng0) (by decide +kernel) ?_ ?_
      · intro c14
        refine ev_r_iconst (pc := 65) (k := 1) (by decide +kernel) ?_
        refine ev_r_goto (pc := 66) (o := 4) (t := 70) (by decide +kernel) (by decide +kernel) ?_
        exact ev_r_ireturn (pc := 70) (x := 1) (v := Int32.ofInt 1) (ty := .boolean) (by decide : ev_bl 1) (by decide +kernel) (by decide +kernel) (ev_ret_bl (by decide : ev_bl 1)) rfl
      · intro c14
        refine ev_r_aload_n (pc := 52) (k := 0) (v := .ref 621) trivial (by decide +kernel) (by exact e5) ?_
        refine ev_r_getC (pc := 53) (y := 68) (ci := 13) (f := 22) (fin := 1) (k' := 641) (by decide +kernel) (by decide +kernel) (by exact ev_ob_621) rfl rfl ?_
        refine ev_r_sipush (pc := 56) (k := 320) (by decide +kernel) (by decide +kernel) ?_
        refine ev_r_iload_n (pc := 59) (k := 1) (v := Int32.ofInt a0) (by decide +kernel) (by exact e6) ?_
        refine ev_r_imul (pc := 60) (by decide +kernel) ?_
        intro x15 hx15
        refine ev_r_iald (pc := 61) hx15 (by decide +kernel) (by exact ev_ab_641) ?_
        intro x16 hx16
        refine ev_r_if (pc := 62) (q := .ne) (o := 7) (t := 69) (c := x16 ≠ 0) (by decide +kernel) (ev_k_ne hx16 ev_rng0) (by decide +kernel) ?_ ?_
        · intro c17
          refine ev_r_iconst (pc := 69) (k := 0) (by decide +kernel) ?_
          exact ev_r_ireturn (pc := 70) (x := 0) (v := Int32.ofInt 0) (ty := .boolean) (by decide : ev_bl 0) (by decide +kernel) (by decide +kernel) (ev_ret_bl (by decide : ev_bl 0)) rfl
        · intro c17
          refine ev_r_iconst (pc := 65) (k := 1) (by decide +kernel) ?_
          refine ev_r_goto (pc := 66) (o := 4) (t := 70) (by decide +kernel) (by decide +kernel) ?_
          exact ev_r_ireturn (pc := 70) (x := 1) (v := Int32.ofInt 1) (ty := .boolean) (by decide : ev_bl 1) (by decide +kernel) (by decide +kernel) (ev_ret_bl (by decide : ev_bl 1)) rfl
    · intro c11
      refine ev_r_iconst (pc := 35) (k := 0) (by decide +kernel) ?_
      exact ev_r_ireturn (pc := 36) (x := 0) (v := Int32.ofInt 0) (ty := .boolean) (by decide : ev_bl 0) (by decide +kernel) (by decide +kernel) (ev_ret_bl (by decide : ev_bl 0)) rfl
  · intro K25 hK25
    refine ev_r_if (pc := 6) (q := .ne) (o := 7) (t := 13) (c := x2 ≠ 0) (by decide +kernel) (ev_k_ne hx2 ev_rng0) (by decide +kernel) ?_ ?_
    · intro c18
      refine ev_r_iload_n (pc := 13) (k := 2) (v := Int32.ofInt a1) (by decide +kernel) (by rfl) ?_
      refine ev_r_stat (pc := 14) (y := 339) (kind := 2) (mi := 223) (na := 1) (as := [.int (Int32.ofInt a1)]) (rest := [.ref 621]) (encc := ev_oI) (Q := ev_bl) (fun x S1 h => jt_223 d (by omega) Q a1 ha1 s1 x S1 h) (Or.inl rfl) (by decide +kernel) (by decide +kernel) (by decide +kernel) (by decide +kernel) rfl (by (try simp only [ev_sum, ev_nv_cat]); first | done | rfl) ?_
      intro x20 s19 hx20
      replace hx20 := ev_bl_rng hx20
      show ev_w _ _ _ _ _ [.int (Int32.ofInt x20), .ref 621] _ _ _ _
      refine ev_r_if (pc := 17) (q := .eq) (o := 7) (t := 24) (c := x20 = 0) (by decide +kernel) (ev_k_eq hx20 ev_rng0) (by decide +kernel) ?_ ?_
      · intro c21
        refine ev_r_iconst (pc := 24) (k := 2) (by decide +kernel) ?_
        exact hK25 2 (by decide) s19 _ (by rfl) (by rfl) (by rfl)
      · intro c21
        refine ev_r_iconst (pc := 20) (k := 0) (by decide +kernel) ?_
        refine ev_r_goto (pc := 21) (o := 4) (t := 25) (by decide +kernel) (by decide +kernel) ?_
        exact hK25 0 (by decide) s19 _ (by rfl) (by rfl) (by rfl)
    · intro c18
      refine ev_r_iconst (pc := 9) (k := 1) (by decide +kernel) ?_
      refine ev_r_goto (pc := 10) (o := 15) (t := 25) (by decide +kernel) (by decide +kernel) ?_
      exact hK25 1 (by decide) s1 _ (by rfl) (by rfl) (by rfl)
def jb_278_8 (Q : Nat) (a0 : Int)  (K8 : Int → Int → Int → ev_St → Option ((Int) × ev_St)) (x1 : Int) (x2 : Int) (x3 : Int) (s10 : ev_St) : Option ((Int) × ev_St) := if 127 ≤ x3 then (if x2 ≠ 1 then (some ((-1), s10)) else (some (x1, s10))) else (ev_bd (jm_223 Q x3 s10) fun x14 s13 => ev_jn (fun (x15 : Int) (x16 : Int) (s23 : ev_St) => ev_ck (x3 + 1) fun x24 => K8 x15 x16 x24 s23) fun K49 => if x14 = 0 then (K49 x1 x2 s13) else (ev_if ((0 : Int) ≤ a0 ∧ a0 < (ev_aln 633 : Int)) (ev_b (s13.2.1 633 (Int.toNat a0)) fun y26 => ev_if ((0 : Int) ≤ a0 ∧ a0 < (ev_aln 634 : Int)) (ev_b (s13.2.1 634 (Int.toNat a0)) fun y27 => ev_bd (jm_244 Q y26 y27 x3 s13) fun x29 s28 => if x29 = 0 then (K49 x1 x2 s28) else (ev_ck (x2 + 1) fun x31 => K49 x3 x31 s28)))))
def jl_278_8 (Q : Nat) (a0 : Int)  : Nat → Int → Int → Int → ev_St → Option ((Int) × ev_St)
  | 0 => fun _ _ _ _ => none
  | q + 1 => jb_278_8 Q a0  (jl_278_8 Q a0  q)
theorem jbt_278_8 (d : Nat) (hd : 3 ≤ d + 1) (Q : Nat) (a0 : Int) (ha0 : ev_rng a0)   (K8 : Int → Int → Int → ev_St → Option ((Int) × ev_St)) (hK8 : ∀ (x1 : Int) (hx1 : ev_rng x1), ∀ (x2 : Int) (hx2 : ev_rng x2), ∀ (x3 : Int) (hx3 : ev_rng x3), ∀ (s10 : ev_St) (w4 : List (Nat × Value)), ev_lk w4 0 = some (.ref 621) → ev_lk w4 1 = some (.int (Int32.ofInt a0)) → ev_lk w4 2 = some (.int (Int32.ofInt x1)) → ev_lk w4 3 = some (.int (Int32.ofInt x2)) → ev_lk w4 4 = some (.int (Int32.ofInt x3)) → ev_w none (ev_Mof 278) d 8 w4 [] s10 (K8 x1 x2 x3 s10) ev_eI ev_rng) : ∀ (x1 : Int) (hx1 : ev_rng x1), ∀ (x2 : Int) (hx2 : ev_rng x2), ∀ (x3 : Int) (hx3 : ev_rng x3), ∀ (s10 : ev_St) (w4 : List (Nat × Value)), ev_lk w4 0 = some (.ref 621) → ev_lk w4 1 = some (.int (Int32.ofInt a0)) → ev_lk w4 2 = some (.int (Int32.ofInt x1)) → ev_lk w4 3 = some (.int (Int32.ofInt x2)) → ev_lk w4 4 = some (.int (Int32.ofInt x3)) → ev_w none (ev_Mof 278) d 8 w4 [] s10 (jb_278_8 Q a0  K8 x1 x2 x3 s10) ev_eI ev_rng := by
  intro x1 hx1 x2 hx2 x3 hx3 s10 w4 e5 e6 e7 e8 e9
  unfold jb_278_8
  refine ev_r_iload (pc := 8) (k := 4) (v := Int32.ofInt x3) (by decide +kernel) (by exact e9) ?_
  refine ev_r_bipush (pc := 10) (k := 127) (by decide +kernel) (by decide +kernel) ?_
  refine ev_r_icmp (pc := 12) (q := .ge) (o := 43) (t := 55) (c := 127 ≤ x3) (by decide +kernel) (ev_k_ge hx3 (by decide)) (by decide +kernel) ?_ ?_
  · intro c11
    refine ev_r_iload_n (pc := 55) (k := 3) (v := Int32.ofInt x2) (by decide +kernel) (by exact e8) ?_
    refine ev_r_iconst (pc := 56) (k := 1) (by decide +kernel) ?_
    refine ev_r_icmp (pc := 57) (q := .ne) (o := 7) (t := 64) (c := x2 ≠ 1) (by decide +kernel) (ev_k_ne hx2 (by decide)) (by decide +kernel) ?_ ?_
    · intro c12
      refine ev_r_iconst (pc := 64) (k := -1) (by decide +kernel) ?_
      exact ev_r_ireturn (pc := 65) (x := (-1)) (v := Int32.ofInt ((-1))) (ty := .int) (by decide) (by decide +kernel) (by decide +kernel) rfl rfl
    · intro c12
      refine ev_r_iload_n (pc := 60) (k := 2) (v := Int32.ofInt x1) (by decide +kernel) (by exact e7) ?_
      refine ev_r_goto (pc := 61) (o := 4) (t := 65) (by decide +kernel) (by decide +kernel) ?_
      exact ev_r_ireturn (pc := 65) (x := x1) (v := Int32.ofInt x1) (ty := .int) hx1 (by decide +kernel) (by decide +kernel) rfl rfl
  · intro c11
    refine ev_r_iload (pc := 15) (k := 4) (v := Int32.ofInt x3) (by decide +kernel) (by exact e9) ?_
    refine ev_r_stat (pc := 17) (y := 339) (kind := 2) (mi := 223) (na := 1) (as := [.int (Int32.ofInt x3)]) (rest := []) (encc := ev_oI) (Q := ev_bl) (fun x S1 h => jt_223 d (by omega) Q x3 hx3 s10 x S1 h) (Or.inl rfl) (by decide +kernel) (by decide +kernel) (by decide +kernel) (by decide +kernel) rfl (by (try simp only [ev_sum, ev_nv_cat]); first | done | rfl) ?_
    intro x14 s13 hx14
    replace hx14 := ev_bl_rng hx14
    show ev_w _ _ _ _ _ [.int (Int32.ofInt x14)] _ _ _ _
    refine ev_r_jn (Q := fun K => ∀ (x15 : Int) (hx15 : ev_rng x15), ∀ (x16 : Int) (hx16 : ev_rng x16), ∀ (s23 : ev_St) (w17 : List (Nat × Value)), ev_lk w17 0 = some (.ref 621) → ev_lk w17 1 = some (.int (Int32.ofInt a0)) → ev_lk w17 2 = some (.int (Int32.ofInt x15)) → ev_lk w17 3 = some (.int (Int32.ofInt x16)) → ev_lk w17 4 = some (.int (Int32.ofInt x3)) → ev_w none (ev_Mof 278) d 49 w17 [] s23 (K x15 x16 s23) ev_eI ev_rng) ?_ ?_
    · intro x15 hx15 x16 hx16 s23 w17 e18 e19 e20 e21 e22
      refine ev_r_iinc (pc := 49) (k := 4) (c := 1) (x := x3) (by decide +kernel) (by decide +kernel) (by exact e22) (fun _ => rfl) ?_
      intro x24 hx24
      refine ev_r_goto (pc := 52) (o := (-44)) (t := 8) (by decide +kernel) (by decide +kernel) ?_
      exact hK8 x15 hx15 x16 hx16 x24 hx24 s23 _ (by exact (ev_l1 e18 (by decide) (by decide))) (by exact (ev_l1 e19 (by decide) (by decide))) (by exact (ev_l1 e20 (by decide) (by decide))) (by exact (ev_lk_st1 e21 (by decide) rfl)) (by exact ev_lk_st1_self)
    · intro K49 hK49
      refine ev_r_if (pc := 20) (q := .eq) (o := 29) (t := 49) (c := x14 = 0) (by decide +kernel) (ev_k_eq hx14 ev_rng0) (by decide +kernel) ?_ ?_
      · intro c25
        exact hK49 x1 hx1 x2 hx2 s13 _ (by exact e5) (by exact e6) (by exact e7) (by exact e8) (by exact e9)
      · intro c25
        refine ev_r_aload_n (pc := 23) (k := 0) (v := .ref 621) trivial (by decide +kernel) (by exact e5) ?_
        refine ev_r_getC (pc := 24) (y := 43) (ci := 13) (f := 14) (fin := 1) (k' := 633) (by decide +kernel) (by decide +kernel) (by exact ev_ob_621) rfl rfl ?_
        refine ev_r_iload_n (pc := 27) (k := 1) (v := Int32.ofInt a0) (by decide +kernel) (by exact e6) ?_
        refine ev_r_lald (pc := 28) ha0 (by decide +kernel) (by exact ev_ab_633) ?_
        intro y26
        refine ev_r_aload_n (pc := 29) (k := 0) (v := .ref 621) trivial (by decide +kernel) (by exact e5) ?_
        refine ev_r_getC (pc := 30) (y := 47) (ci := 13) (f := 15) (fin := 1) (k' := 634) (by decide +kernel) (by decide +kernel) (by exact ev_ob_621) rfl rfl ?_
        refine ev_r_iload_n (pc := 33) (k := 1) (v := Int32.ofInt a0) (by decide +kernel) (by exact e6) ?_
        refine ev_r_lald (pc := 34) ha0 (by decide +kernel) (by exact ev_ab_634) ?_
        intro y27
        refine ev_r_iload (pc := 35) (k := 4) (v := Int32.ofInt x3) (by decide +kernel) (by exact e9) ?_
        refine ev_r_stat (pc := 37) (y := 534) (kind := 2) (mi := 244) (na := 3) (as := [.long y26, .long y27, .int (Int32.ofInt x3)]) (rest := []) (encc := ev_oI) (Q := ev_bl) (fun x S1 h => jt_244 d (by omega) Q y26 y27 x3 hx3 s13 x S1 h) (Or.inl rfl) (by decide +kernel) (by decide +kernel) (by decide +kernel) (by decide +kernel) rfl (by (try simp only [ev_sum, ev_nv_cat]); first | done | rfl) ?_
        intro x29 s28 hx29
        replace hx29 := ev_bl_rng hx29
        show ev_w _ _ _ _ _ [.int (Int32.ofInt x29)] _ _ _ _
        refine ev_r_if (pc := 40) (q := .eq) (o := 9) (t := 49) (c := x29 = 0) (by decide +kernel) (ev_k_eq hx29 ev_rng0) (by decide +kernel) ?_ ?_
        · intro c30
          exact hK49 x1 hx1 x2 hx2 s28 _ (by exact e5) (by exact e6) (by exact e7) (by exact e8) (by exact e9)
        · intro c30
          refine ev_r_iload (pc := 43) (k := 4) (v := Int32.ofInt x3) (by decide +kernel) (by exact e9) ?_
          refine ev_r_istore_n (pc := 45) (k := 2) (by decide +kernel) (by decide +kernel) rfl ?_
          refine ev_r_iinc (pc := 46) (k := 3) (c := 1) (x := x2) (by decide +kernel) (by decide +kernel) (by exact (ev_l1 e8 (by decide) (by decide))) (fun _ => rfl) ?_
          intro x31 hx31
          exact hK49 x3 hx3 x31 hx31 s28 _ (by exact (ev_l1 (ev_l1 e5 (by decide) (by decide)) (by decide) (by decide))) (by exact (ev_l1 (ev_lk_st1 e6 (by decide) rfl) (by decide) (by decide))) (by exact (ev_lk_st1 ev_lk_st1_self (by decide) rfl)) (by exact ev_lk_st1_self) (by exact (ev_l1 (ev_l1 e9 (by decide) (by decide)) (by decide) (by decide)))
theorem jlt_278_8 (d : Nat) (hd : 3 ≤ d + 1) (Q : Nat) (a0 : Int) (ha0 : ev_rng a0)   : ∀ q : Nat, ∀ (x1 : Int) (hx1 : ev_rng x1), ∀ (x2 : Int) (hx2 : ev_rng x2), ∀ (x3 : Int) (hx3 : ev_rng x3), ∀ (s10 : ev_St) (w4 : List (Nat × Value)), ev_lk w4 0 = some (.ref 621) → ev_lk w4 1 = some (.int (Int32.ofInt a0)) → ev_lk w4 2 = some (.int (Int32.ofInt x1)) → ev_lk w4 3 = some (.int (Int32.ofInt x2)) → ev_lk w4 4 = some (.int (Int32.ofInt x3)) → ev_w none (ev_Mof 278) d 8 w4 [] s10 (jl_278_8 Q a0  q x1 x2 x3 s10) ev_eI ev_rng := by
  intro q
  induction q with
  | zero =>
    intro x1 hx1 x2 hx2 x3 hx3 s10 w4 e5 e6 e7 e8 e9
    exact ev_w_none
  | succ q ih => exact jbt_278_8 d hd Q a0 ha0   _ ih
/-- MendBenchModel.only(I)I -/
def jm_278 (Q : Nat) (a0 : Int) (S : ev_St) : Option ((Int) × ev_St) := jl_278_8 Q a0  Q ((-1)) 0 10 S
theorem jt_278 (d : Nat) (hd : 3 ≤ d) (Q : Nat) (a0 : Int) (ha0 : ev_rng a0) (S : ev_St) (x : Int) (S' : ev_St) (hJ : jm_278 Q a0 S = some (x, S')) : ev_Ref d 278 [.ref 621, .int (Int32.ofInt a0)] S (ev_eI x) S' (ev_rng x) := by
  obtain ⟨d, rfl⟩ : ∃ e, d = e + 1 := ⟨d - 1, by omega⟩
  refine ev_ref_of (P := ev_rng) (lv := [(0, .ref 621), (1, .int (Int32.ofInt a0))]) (by decide +kernel) (by (try simp only [ev_sum, ev_nv_cat]); first | done | rfl) (by (try simp only [lv_args, ev_nv_cat]); first | done | rfl) ?_ x S' hJ
  unfold jm_278
  refine ev_r_iconst (pc := 0) (k := -1) (by decide +kernel) ?_
  refine ev_r_istore_n (pc := 1) (k := 2) (by decide +kernel) (by decide +kernel) rfl ?_
  refine ev_r_iconst (pc := 2) (k := 0) (by decide +kernel) ?_
  refine ev_r_istore_n (pc := 3) (k := 3) (by decide +kernel) (by decide +kernel) rfl ?_
  refine ev_r_bipush (pc := 4) (k := 10) (by decide +kernel) (by decide +kernel) ?_
  refine ev_r_istore (pc := 6) (k := 4) (by decide +kernel) (by decide +kernel) rfl ?_
  exact jlt_278_8 d hd Q a0 ha0   Q ((-1)) (by decide) 0 (by decide) 10 (by decide) S _ (by exact (ev_l1 (ev_l1 (ev_l1 (by rfl) (by decide) (by decide)) (by decide) (by decide)) (by decide) (by decide))) (by exact (ev_l1 (ev_l1 (ev_lk_st1 (by rfl) (by decide) rfl) (by decide) (by decide)) (by decide) (by decide))) (by exact (ev_l1 (ev_lk_st1 ev_lk_st1_self (by decide) rfl) (by decide) (by decide))) (by exact (ev_lk_st1 ev_lk_st1_self (by decide) rfl)) (by exact ev_lk_st1_self)
def jb_279_60 (Q : Nat) (a1 : Int)  (K60 : Int → Int → Int → Int → Int → Int → Int → ev_St → Option ((Int) × ev_St)) (x7 : Int) (x8 : Int) (x9 : Int) (x10 : Int) (x11 : Int) (x12 : Int) (x13 : Int) (s24 : ev_St) : Option ((Int) × ev_St) := ev_jn (fun  (s35 : ev_St) => if x13 ≠ (-1) then (ev_ck (x7 + x13) fun x37 => ev_if ((0 : Int) ≤ x37 ∧ x37 < (ev_aln 625 : Int)) (ev_b (s35.1 625 (Int.toNat x37)) fun x38 => ev_jn (fun (x39 : Int) (x40 : Int) (s51 : ev_St) => ev_if ((0 : Int) ≤ x39 ∧ x39 < (ev_aln 625 : Int)) (ev_b (s51.1 625 (Int.toNat x39)) fun x52 => ev_bd (jm_267 Q x52 s51) fun x54 s53 => ev_jn (fun (x55 : Int) (x56 : Int) (s68 : ev_St) => ev_jn (fun (x69 : Int) (x70 : Int) (x71 : Int) (x72 : Int) (x73 : Int) (x74 : Int) (s85 : ev_St) => K60 x7 x69 x70 x71 x72 x73 x74 s85) fun K306 => if x56 = 0 then (ev_if ((0 : Int) ≤ x10 ∧ x10 < (ev_aln 661 : Int)) (ev_b (ev_pI s68 661 (Int.toNat x10) x55) fun s87 => ev_jn (fun (x89 : Int) (x88 : Int) (s100 : ev_St) => ev_ck (x88 + x89) fun x101 => ev_jn (fun (x102 : Int) (x103 : Int) (s113 : ev_St) => ev_jn (fun (x114 : Int) (x115 : Int) (s125 : ev_St) => ev_jn (fun (x126 : Int) (x127 : Int) (s137 : ev_St) => ev_if ((0 : Int) ≤ x39 ∧ x39 < (ev_aln 627 : Int)) (ev_b (s137.1 627 (Int.toNat x39)) fun x138 => K306 x127 x126 x102 x114 x12 x138 s137)) fun K295 => if x114 ≤ x8 then (K295 x115 x8 s125) else (K295 x115 x114 s125)) fun K279 => if x103 ≤ x8 then (K279 x103 x9 s113) else (ev_ck (x102 - x103) fun x141 => K279 x103 x141 s113)) fun K260 => if x55 ≠ (-1) then (ev_ck (x11 + 1) fun x143 => K260 x101 x143 s100) else (K260 x101 0 s100)) fun K243 => if x55 ≠ (-1) then (K243 1 x10 s87) else (K243 0 x10 s87))) else (ev_if ((0 : Int) ≤ x39 ∧ x39 < (ev_aln 627 : Int)) (ev_b (s68.1 627 (Int.toNat x39)) fun x145 => ev_if ((0 : Int) ≤ x12 ∧ x12 < (ev_aln 660 : Int)) (ev_b (ev_pI s68 660 (Int.toNat x12) x145) fun s146 => ev_ck (x12 + 1) fun x147 => ev_if ((0 : Int) ≤ x39 ∧ x39 < (ev_aln 626 : Int)) (ev_b (s146.1 626 (Int.toNat x39)) fun x148 => ev_ck (x7 + x148) fun x149 => ev_if ((0 : Int) ≤ x149 ∧ x149 < (ev_aln 626 : Int)) (ev_b (s146.1 626 (Int.toNat x149)) fun x150 => K306 x8 x9 x10 x11 x147 x150 s146)))))) fun K178 => ev_jn (fun (x151 : Int) (s163 : ev_St) => K178 x151 0 s163) fun K177 => if x54 = 0 then (K177 x40 s53) else (ev_if ((0 : Int) ≤ x39 ∧ x39 < (ev_aln 630 : Int)) (ev_b (s53.1 630 (Int.toNat x39)) fun x165 => if x165 ≠ (-1) then (K177 x40 s53) else (ev_if ((0 : Int) ≤ x39 ∧ x39 < (ev_aln 626 : Int)) (ev_b (s53.1 626 (Int.toNat x39)) fun x167 => ev_ck (x7 + x167) fun x168 => ev_if ((0 : Int) ≤ x168 ∧ x168 < (ev_aln 627 : Int)) (ev_b (s53.1 627 (Int.toNat x168)) fun x169 => if x169 ≠ (-1) then (K177 x40 s53) else (K178 x40 1 s53)))))))) fun K129 => ev_jn (fun (x171 : Int) (s182 : ev_St) => K129 x171 ((-1)) s182) fun K128 => if x38 ≠ 0 then (K128 x37 s35) else (ev_if ((0 : Int) ≤ x37 ∧ x37 < (ev_aln 630 : Int)) (ev_b (s35.1 630 (Int.toNat x37)) fun x184 => if x184 ≠ (-1) then (K128 x37 s35) else (ev_bd (jm_278 Q x37 s35) fun x187 s186 => K129 x37 x187 s186))))) else (ev_ck (x12 + (-1)) fun x188 => ev_if ((0 : Int) ≤ x188 ∧ x188 < (ev_aln 660 : Int)) (ev_b (s35.1 660 (Int.toNat x188)) fun x189 => K60 x7 x8 x9 x10 x11 x188 x189 s35))) fun K71 => if x13 ≠ (-1) then (K71  s24) else (if x12 ≤ 0 then (if x8 ≤ a1 then (some ((-1), s24)) else (ev_ck (x9 + a1) fun x193 => ev_if ((0 : Int) ≤ x193 ∧ x193 < (ev_aln 661 : Int)) (ev_b (s24.1 661 (Int.toNat x193)) fun x194 => some (x194, s24)))) else (K71  s24))
def jl_279_60 (Q : Nat) (a1 : Int)  : Nat → Int → Int → Int → Int → Int → Int → Int → ev_St → Option ((Int) × ev_St)
  | 0 => fun _ _ _ _ _ _ _ _ => none
  | q + 1 => jb_279_60 Q a1  (jl_279_60 Q a1  q)
theorem jbt_279_60 (d : Nat) (hd : 4 ≤ d + 1) (Q : Nat) (a1 : Int) (ha1 : ev_rng a1)   (K60 : Int → Int → Int → Int → Int → Int → Int → ev_St → Option ((Int) × ev_St)) (hK60 : ∀ (x7 : Int) (hx7 : ev_rng x7), ∀ (x8 : Int) (hx8 : ev_rng x8), ∀ (x9 : Int) (hx9 : ev_rng x9), ∀ (x10 : Int) (hx10 : ev_rng x10), ∀ (x11 : Int) (hx11 : ev_rng x11), ∀ (x12 : Int) (hx12 : ev_rng x12), ∀ (x13 : Int) (hx13 : ev_rng x13), ∀ (s24 : ev_St) (w14 : List (Nat × Value)), ev_lk w14 0 = some (.ref 621) → ev_lk w14 2 = some (.int (Int32.ofInt a1)) → ev_lk w14 3 = some (.int (Int32.ofInt x7)) → ev_lk w14 4 = some (.int (Int32.ofInt x8)) → ev_lk w14 5 = some (.int (Int32.ofInt x9)) → ev_lk w14 6 = some (.int (Int32.ofInt x10)) → ev_lk w14 7 = some (.int (Int32.ofInt x11)) → ev_lk w14 8 = some (.int (Int32.ofInt x12)) → ev_lk w14 9 = some (.int (Int32.ofInt x13)) → ev_w none (ev_Mof 279) d 60 w14 [] s24 (K60 x7 x8 x9 x10 x11 x12 x13 s24) ev_eI ev_rng) : ∀ (x7 : Int) (hx7 : ev_rng x7), ∀ (x8 : Int) (hx8 : ev_rng x8), ∀ (x9 : Int) (hx9 : ev_rng x9), ∀ (x10 : Int) (hx10 : ev_rng x10), ∀ (x11 : Int) (hx11 : ev_rng x11), ∀ (x12 : Int) (hx12 : ev_rng x12), ∀ (x13 : Int) (hx13 : ev_rng x13), ∀ (s24 : ev_St) (w14 : List (Nat × Value)), ev_lk w14 0 = some (.ref 621) → ev_lk w14 2 = some (.int (Int32.ofInt a1)) → ev_lk w14 3 = some (.int (Int32.ofInt x7)) → ev_lk w14 4 = some (.int (Int32.ofInt x8)) → ev_lk w14 5 = some (.int (Int32.ofInt x9)) → ev_lk w14 6 = some (.int (Int32.ofInt x10)) → ev_lk w14 7 = some (.int (Int32.ofInt x11)) → ev_lk w14 8 = some (.int (Int32.ofInt x12)) → ev_lk w14 9 = some (.int (Int32.ofInt x13)) → ev_w none (ev_Mof 279) d 60 w14 [] s24 (jb_279_60 Q a1  K60 x7 x8 x9 x10 x11 x12 x13 s24) ev_eI ev_rng := by
  intro x7 hx7 x8 hx8 x9 hx9 x10 hx10 x11 hx11 x12 hx12 x13 hx13 s24 w14 e15 e16 e17 e18 e19 e20 e21 e22 e23
  unfold jb_279_60
  refine ev_r_iload (pc := 60) (k := 9) (v := Int32.ofInt x13) (by decide +kernel) (by exact e23) ?_
  refine ev_r_iconst (pc := 62) (k := -1) (by decide +kernel) ?_
  refine ev_r_jn (Q := fun K => ∀ (s35 : ev_St) (w25 : List (Nat × Value)), ev_lk w25 0 = some (.ref 621) → ev_lk w25 2 = some (.int (Int32.ofInt a1)) → ev_lk w25 3 = some (.int (Int32.ofInt x7)) → ev_lk w25 4 = some (.int (Int32.ofInt x8)) → ev_lk w25 5 = some (.int (Int32.ofInt x9)) → ev_lk w25 6 = some (.int (Int32.ofInt x10)) → ev_lk w25 7 = some (.int (Int32.ofInt x11)) → ev_lk w25 8 = some (.int (Int32.ofInt x12)) → ev_lk w25 9 = some (.int (Int32.ofInt x13)) → ev_w none (ev_Mof 279) d 71 w25 [] s35 (K  s35) ev_eI ev_rng) ?_ ?_
  · intro  s35 w25 e26 e27 e28 e29 e30 e31 e32 e33 e34
    refine ev_r_iload (pc := 71) (k := 9) (v := Int32.ofInt x13) (by decide +kernel) (by exact e34) ?_
    refine ev_r_iconst (pc := 73) (k := -1) (by decide +kernel) ?_
    refine ev_r_icmp (pc := 74) (q := .ne) (o := 18) (t := 92) (c := x13 ≠ (-1)) (by decide +kernel) (ev_k_ne hx13 (by decide)) (by decide +kernel) ?_ ?_
    · intro c36
      refine ev_r_iload_n (pc := 92) (k := 3) (v := Int32.ofInt x7) (by decide +kernel) (by exact e28) ?_
      refine ev_r_iload (pc := 93) (k := 9) (v := Int32.ofInt x13) (by decide +kernel) (by exact e34) ?_
      refine ev_r_iadd (pc := 95) (by decide +kernel) ?_
      intro x37 hx37
      refine ev_r_istore (pc := 96) (k := 10) (by decide +kernel) (by decide +kernel) rfl ?_
      refine ev_r_aload_n (pc := 98) (k := 0) (v := .ref 621) trivial (by decide +kernel) (by exact (ev_l1 e26 (by decide) (by decide))) ?_
      refine ev_r_getC (pc := 99) (y := 19) (ci := 13) (f := 6) (fin := 1) (k' := 625) (by decide +kernel) (by decide +kernel) (by exact ev_ob_621) rfl rfl ?_
      refine ev_r_iload (pc := 102) (k := 10) (v := Int32.ofInt x37) (by decide +kernel) (by exact ev_lk_st1_self) ?_
      refine ev_r_iald (pc := 104) hx37 (by decide +kernel) (by exact ev_ab_625) ?_
      intro x38 hx38
      refine ev_r_jn (Q := fun K => ∀ (x39 : Int) (hx39 : ev_rng x39), ∀ (x40 : Int) (hx40 : ev_rng x40), ∀ (s51 : ev_St) (w41 : List (Nat × Value)), ev_lk w41 0 = some (.ref 621) → ev_lk w41 2 = some (.int (Int32.ofInt a1)) → ev_lk w41 3 = some (.int (Int32.ofInt x7)) → ev_lk w41 4 = some (.int (Int32.ofInt x8)) → ev_lk w41 5 = some (.int (Int32.ofInt x9)) → ev_lk w41 6 = some (.int (Int32.ofInt x10)) → ev_lk w41 7 = some (.int (Int32.ofInt x11)) → ev_lk w41 8 = some (.int (Int32.ofInt x12)) → ev_lk w41 10 = some (.int (Int32.ofInt x39)) → ev_w none (ev_Mof 279) d 129 w41 [.int (Int32.ofInt x40)] s51 (K x39 x40 s51) ev_eI ev_rng) ?_ ?_
      · intro x39 hx39 x40 hx40 s51 w41 e42 e43 e44 e45 e46 e47 e48 e49 e50
        refine ev_r_istore (pc := 129) (k := 11) (by decide +kernel) (by decide +kernel) rfl ?_
        refine ev_r_aload_n (pc := 131) (k := 0) (v := .ref 621) trivial (by decide +kernel) (by exact (ev_l1 e42 (by decide) (by decide))) ?_
        refine ev_r_getC (pc := 132) (y := 19) (ci := 13) (f := 6) (fin := 1) (k' := 625) (by decide +kernel) (by decide +kernel) (by exact ev_ob_621) rfl rfl ?_
        refine ev_r_iload (pc := 135) (k := 10) (v := Int32.ofInt x39) (by decide +kernel) (by exact (ev_lk_st1 e50 (by decide) rfl)) ?_
        refine ev_r_iald (pc := 137) hx39 (by decide +kernel) (by exact ev_ab_625) ?_
        intro x52 hx52
        refine ev_r_stat (pc := 138) (y := 504) (kind := 2) (mi := 267) (na := 1) (as := [.int (Int32.ofInt x52)]) (rest := []) (encc := ev_oI) (Q := ev_bl) (fun x S1 h => jt_267 d (by omega) Q x52 hx52 s51 x S1 h) (Or.inl rfl) (by decide +kernel) (by decide +kernel) (by decide +kernel) (by decide +kernel) rfl (by (try simp only [ev_sum, ev_nv_cat]); first | done | rfl) ?_
        intro x54 s53 hx54
        replace hx54 := ev_bl_rng hx54
        show ev_w _ _ _ _ _ [.int (Int32.ofInt x54)] _ _ _ _
        refine ev_r_jn (Q := fun K => ∀ (x55 : Int) (hx55 : ev_rng x55), ∀ (x56 : Int) (hx56 : ev_rng x56), ∀ (s68 : ev_St) (w57 : List (Nat × Value)), ev_lk w57 0 = some (.ref 621) → ev_lk w57 2 = some (.int (Int32.ofInt a1)) → ev_lk w57 3 = some (.int (Int32.ofInt x7)) → ev_lk w57 4 = some (.int (Int32.ofInt x8)) → ev_lk w57 5 = some (.int (Int32.ofInt x9)) → ev_lk w57 6 = some (.int (Int32.ofInt x10)) → ev_lk w57 7 = some (.int (Int32.ofInt x11)) → ev_lk w57 8 = some (.int (Int32.ofInt x12)) → ev_lk w57 10 = some (.int (Int32.ofInt x39)) → ev_lk w57 11 = some (.int (Int32.ofInt x55)) → ev_w none (ev_Mof 279) d 178 w57 [.int (Int32.ofInt x56)] s68 (K x55 x56 s68) ev_eI ev_rng) ?_ ?_
        · intro x55 hx55 x56 hx56 s68 w57 e58 e59 e60 e61 e62 e63 e64 e65 e66 e67
          refine ev_r_istore (pc := 178) (k := 12) (by decide +kernel) (by decide +kernel) rfl ?_
          refine ev_r_iload (pc := 180) (k := 12) (v := Int32.ofInt x56) (by decide +kernel) (by exact ev_lk_st1_self) ?_
          refine ev_r_jn (Q := fun K => ∀ (x69 : Int) (hx69 : ev_rng x69), ∀ (x70 : Int) (hx70 : ev_rng x70), ∀ (x71 : Int) (hx71 : ev_rng x71), ∀ (x72 : Int) (hx72 : ev_rng x72), ∀ (x73 : Int) (hx73 : ev_rng x73), ∀ (x74 : Int) (hx74 : ev_rng x74), ∀ (s85 : ev_St) (w75 : List (Nat × Value)), ev_lk w75 0 = some (.ref 621) → ev_lk w75 2 = some (.int (Int32.ofInt a1)) → ev_lk w75 3 = some (.int (Int32.ofInt x7)) → ev_lk w75 4 = some (.int (Int32.ofInt x69)) → ev_lk w75 5 = some (.int (Int32.ofInt x70)) → ev_lk w75 6 = some (.int (Int32.ofInt x71)) → ev_lk w75 7 = some (.int (Int32.ofInt x72)) → ev_lk w75 8 = some (.int (Int32.ofInt x73)) → ev_lk w75 9 = some (.int (Int32.ofInt x74)) → ev_w none (ev_Mof 279) d 306 w75 [] s85 (K x69 x70 x71 x72 x73 x74 s85) ev_eI ev_rng) ?_ ?_
          · intro x69 hx69 x70 hx70 x71 hx71 x72 hx72 x73 hx73 x74 hx74 s85 w75 e76 e77 e78 e79 e80 e81 e82 e83 e84
            refine ev_r_goto (pc := 306) (o := (-246)) (t := 60) (by decide +kernel) (by decide +kernel) ?_
            exact hK60 x7 hx7 x69 hx69 x70 hx70 x71 hx71 x72 hx72 x73 hx73 x74 hx74 s85 _ (by exact e76) (by exact e77) (by exact e78) (by exact e79) (by exact e80) (by exact e81) (by exact e82) (by exact e83) (by exact e84)
          · intro K306 hK306
            refine ev_r_if (pc := 182) (q := .eq) (o := 39) (t := 221) (c := x56 = 0) (by decide +kernel) (ev_k_eq hx56 ev_rng0) (by decide +kernel) ?_ ?_
            · intro c86
              refine ev_r_aload_n (pc := 221) (k := 0) (v := .ref 621) trivial (by decide +kernel) (by exact (ev_l1 e58 (by decide) (by decide))) ?_
              refine ev_r_getC (pc := 222) (y := 129) (ci := 13) (f := 53) (fin := 1) (k' := 661) (by decide +kernel) (by decide +kernel) (by exact ev_ob_621) rfl rfl ?_
              refine ev_r_iload (pc := 225) (k := 6) (v := Int32.ofInt x10) (by decide +kernel) (by exact (ev_l1 e63 (by decide) (by decide))) ?_
              refine ev_r_iload (pc := 227) (k := 11) (v := Int32.ofInt x55) (by decide +kernel) (by exact (ev_lk_st1 e67 (by decide) rfl)) ?_
              refine ev_r_iast (pc := 229) hx55 hx10 (by decide +kernel) (by exact ev_ab_661) ?_
              intro s87
              refine ev_r_iload (pc := 230) (k := 6) (v := Int32.ofInt x10) (by decide +kernel) (by exact (ev_l1 e63 (by decide) (by decide))) ?_
              refine ev_r_iload (pc := 232) (k := 11) (v := Int32.ofInt x55) (by decide +kernel) (by exact (ev_lk_st1 e67 (by decide) rfl)) ?_
              refine ev_r_iconst (pc := 234) (k := -1) (by decide +kernel) ?_
              refine ev_r_jn (Q := fun K => ∀ (x89 : Int) (hx89 : ev_rng x89), ∀ (x88 : Int) (hx88 : ev_rng x88), ∀ (s100 : ev_St) (w90 : List (Nat × Value)), ev_lk w90 0 = some (.ref 621) → ev_lk w90 2 = some (.int (Int32.ofInt a1)) → ev_lk w90 3 = some (.int (Int32.ofInt x7)) → ev_lk w90 4 = some (.int (Int32.ofInt x8)) → ev_lk w90 5 = some (.int (Int32.ofInt x9)) → ev_lk w90 7 = some (.int (Int32.ofInt x11)) → ev_lk w90 8 = some (.int (Int32.ofInt x12)) → ev_lk w90 10 = some (.int (Int32.ofInt x39)) → ev_lk w90 11 = some (.int (Int32.ofInt x55)) → ev_w none (ev_Mof 279) d 243 w90 [.int (Int32.ofInt x89), .int (Int32.ofInt x88)] s100 (K x89 x88 s100) ev_eI ev_rng) ?_ ?_
              · intro x89 hx89 x88 hx88 s100 w90 e91 e92 e93 e94 e95 e96 e97 e98 e99
                refine ev_r_iadd (pc := 243) (by decide +kernel) ?_
                intro x101 hx101
                refine ev_r_istore (pc := 244) (k := 6) (by decide +kernel) (by decide +kernel) rfl ?_
                refine ev_r_iload (pc := 246) (k := 11) (v := Int32.ofInt x55) (by decide +kernel) (by exact (ev_l1 e99 (by decide) (by decide))) ?_
                refine ev_r_iconst (pc := 248) (k := -1) (by decide +kernel) ?_
                refine ev_r_jn (Q := fun K => ∀ (x102 : Int) (hx102 : ev_rng x102), ∀ (x103 : Int) (hx103 : ev_rng x103), ∀ (s113 : ev_St) (w104 : List (Nat × Value)), ev_lk w104 0 = some (.ref 621) → ev_lk w104 2 = some (.int (Int32.ofInt a1)) → ev_lk w104 3 = some (.int (Int32.ofInt x7)) → ev_lk w104 4 = some (.int (Int32.ofInt x8)) → ev_lk w104 5 = some (.int (Int32.ofInt x9)) → ev_lk w104 6 = some (.int (Int32.ofInt x102)) → ev_lk w104 8 = some (.int (Int32.ofInt x12)) → ev_lk w104 10 = some (.int (Int32.ofInt x39)) → ev_w none (ev_Mof 279) d 260 w104 [.int (Int32.ofInt x103)] s113 (K x102 x103 s113) ev_eI ev_rng) ?_ ?_
                · intro x102 hx102 x103 hx103 s113 w104 e105 e106 e107 e108 e109 e110 e111 e112
                  refine ev_r_istore (pc := 260) (k := 7) (by decide +kernel) (by decide +kernel) rfl ?_
                  refine ev_r_iload (pc := 262) (k := 7) (v := Int32.ofInt x103) (by decide +kernel) (by exact ev_lk_st1_self) ?_
                  refine ev_r_iload (pc := 264) (k := 4) (v := Int32.ofInt x8) (by decide +kernel) (by exact (ev_l1 e108 (by decide) (by decide))) ?_
                  refine ev_r_jn (Q := fun K => ∀ (x114 : Int) (hx114 : ev_rng x114), ∀ (x115 : Int) (hx115 : ev_rng x115), ∀ (s125 : ev_St) (w116 : List (Nat × Value)), ev_lk w116 0 = some (.ref 621) → ev_lk w116 2 = some (.int (Int32.ofInt a1)) → ev_lk w116 3 = some (.int (Int32.ofInt x7)) → ev_lk w116 4 = some (.int (Int32.ofInt x8)) → ev_lk w116 6 = some (.int (Int32.ofInt x102)) → ev_lk w116 7 = some (.int (Int32.ofInt x114)) → ev_lk w116 8 = some (.int (Int32.ofInt x12)) → ev_lk w116 10 = some (.int (Int32.ofInt x39)) → ev_w none (ev_Mof 279) d 279 w116 [.int (Int32.ofInt x115)] s125 (K x114 x115 s125) ev_eI ev_rng) ?_ ?_
                  · intro x114 hx114 x115 hx115 s125 w116 e117 e118 e119 e120 e121 e122 e123 e124
                    refine ev_r_istore (pc := 279) (k := 5) (by decide +kernel) (by decide +kernel) rfl ?_
                    refine ev_r_iload (pc := 281) (k := 7) (v := Int32.ofInt x114) (by decide +kernel) (by exact (ev_l1 e122 (by decide) (by decide))) ?_
                    refine ev_r_iload (pc := 283) (k := 4) (v := Int32.ofInt x8) (by decide +kernel) (by exact (ev_lk_st1 e120 (by decide) rfl)) ?_
                    refine ev_r_jn (Q := fun K => ∀ (x126 : Int) (hx126 : ev_rng x126), ∀ (x127 : Int) (hx127 : ev_rng x127), ∀ (s137 : ev_St) (w128 : List (Nat × Value)), ev_lk w128 0 = some (.ref 621) → ev_lk w128 2 = some (.int (Int32.ofInt a1)) → ev_lk w128 3 = some (.int (Int32.ofInt x7)) → ev_lk w128 5 = some (.int (Int32.ofInt x126)) → ev_lk w128 6 = some (.int (Int32.ofInt x102)) → ev_lk w128 7 = some (.int (Int32.ofInt x114)) → ev_lk w128 8 = some (.int (Int32.ofInt x12)) → ev_lk w128 10 = some (.int (Int32.ofInt x39)) → ev_w none (ev_Mof 279) d 295 w128 [.int (Int32.ofInt x127)] s137 (K x126 x127 s137) ev_eI ev_rng) ?_ ?_
                    · intro x126 hx126 x127 hx127 s137 w128 e129 e130 e131 e132 e133 e134 e135 e136
                      refine ev_r_istore (pc := 295) (k := 4) (by decide +kernel) (by decide +kernel) rfl ?_
                      refine ev_r_aload_n (pc := 297) (k := 0) (v := .ref 621) trivial (by decide +kernel) (by exact (ev_l1 e129 (by decide) (by decide))) ?_
                      refine ev_r_getC (pc := 298) (y := 25) (ci := 13) (f := 8) (fin := 1) (k' := 627) (by decide +kernel) (by decide +kernel) (by exact ev_ob_621) rfl rfl ?_
                      refine ev_r_iload (pc := 301) (k := 10) (v := Int32.ofInt x39) (by decide +kernel) (by exact (ev_l1 e136 (by decide) (by decide))) ?_
                      refine ev_r_iald (pc := 303) hx39 (by decide +kernel) (by exact ev_ab_627) ?_
                      intro x138 hx138
                      refine ev_r_istore (pc := 304) (k := 9) (by decide +kernel) (by decide +kernel) rfl ?_
                      exact hK306 x127 hx127 x126 hx126 x102 hx102 x114 hx114 x12 hx12 x138 hx138 s137 _ (by exact (ev_l1 (ev_l1 e129 (by decide) (by decide)) (by decide) (by decide))) (by exact (ev_l1 (ev_l1 e130 (by decide) (by decide)) (by decide) (by decide))) (by exact (ev_l1 (ev_lk_st1 e131 (by decide) rfl) (by decide) (by decide))) (by exact (ev_l1 ev_lk_st1_self (by decide) (by decide))) (by exact (ev_l1 (ev_l1 e132 (by decide) (by decide)) (by decide) (by decide))) (by exact (ev_l1 (ev_l1 e133 (by decide) (by decide)) (by decide) (by decide))) (by exact (ev_l1 (ev_l1 e134 (by decide) (by decide)) (by decide) (by decide))) (by exact (ev_lk_st1 (ev_l1 e135 (by decide) (by decide)) (by decide) rfl)) (by exact ev_lk_st1_self)
                    · intro K295 hK295
                      refine ev_r_icmp (pc := 285) (q := .le) (o := 8) (t := 293) (c := x114 ≤ x8) (by decide +kernel) (ev_k_le hx114 hx8) (by decide +kernel) ?_ ?_
                      · intro c139
                        refine ev_r_iload (pc := 293) (k := 4) (v := Int32.ofInt x8) (by decide +kernel) (by exact (ev_lk_st1 e120 (by decide) rfl)) ?_
                        exact hK295 x115 hx115 x8 hx8 s125 _ (by exact (ev_l1 e117 (by decide) (by decide))) (by exact (ev_l1 e118 (by decide) (by decide))) (by exact (ev_l1 e119 (by decide) (by decide))) (by exact ev_lk_st1_self) (by exact (ev_l1 e121 (by decide) (by decide))) (by exact (ev_l1 e122 (by decide) (by decide))) (by exact (ev_l1 e123 (by decide) (by decide))) (by exact (ev_l1 e124 (by decide) (by decide)))
                      · intro c139
                        refine ev_r_iload (pc := 288) (k := 7) (v := Int32.ofInt x114) (by decide +kernel) (by exact (ev_l1 e122 (by decide) (by decide))) ?_
                        refine ev_r_goto (pc := 290) (o := 5) (t := 295) (by decide +kernel) (by decide +kernel) ?_
                        exact hK295 x115 hx115 x114 hx114 s125 _ (by exact (ev_l1 e117 (by decide) (by decide))) (by exact (ev_l1 e118 (by decide) (by decide))) (by exact (ev_l1 e119 (by decide) (by decide))) (by exact ev_lk_st1_self) (by exact (ev_l1 e121 (by decide) (by decide))) (by exact (ev_l1 e122 (by decide) (by decide))) (by exact (ev_l1 e123 (by decide) (by decide))) (by exact (ev_l1 e124 (by decide) (by decide)))
                  · intro K279 hK279
                    refine ev_r_icmp (pc := 266) (q := .le) (o := 11) (t := 277) (c := x103 ≤ x8) (by decide +kernel) (ev_k_le hx103 hx8) (by decide +kernel) ?_ ?_
                    · intro c140
                      refine ev_r_iload (pc := 277) (k := 5) (v := Int32.ofInt x9) (by decide +kernel) (by exact (ev_l1 e109 (by decide) (by decide))) ?_
                      exact hK279 x103 hx103 x9 hx9 s113 _ (by exact (ev_l1 e105 (by decide) (by decide))) (by exact (ev_l1 e106 (by decide) (by decide))) (by exact (ev_l1 e107 (by decide) (by decide))) (by exact (ev_l1 e108 (by decide) (by decide))) (by exact (ev_lk_st1 e110 (by decide) rfl)) (by exact ev_lk_st1_self) (by exact (ev_l1 e111 (by decide) (by decide))) (by exact (ev_l1 e112 (by decide) (by decide)))
                    · intro c140
                      refine ev_r_iload (pc := 269) (k := 6) (v := Int32.ofInt x102) (by decide +kernel) (by exact (ev_lk_st1 e110 (by decide) rfl)) ?_
                      refine ev_r_iload (pc := 271) (k := 7) (v := Int32.ofInt x103) (by decide +kernel) (by exact ev_lk_st1_self) ?_
                      refine ev_r_isub (pc := 273) (by decide +kernel) ?_
                      intro x141 hx141
                      refine ev_r_goto (pc := 274) (o := 5) (t := 279) (by decide +kernel) (by decide +kernel) ?_
                      exact hK279 x103 hx103 x141 hx141 s113 _ (by exact (ev_l1 e105 (by decide) (by decide))) (by exact (ev_l1 e106 (by decide) (by decide))) (by exact (ev_l1 e107 (by decide) (by decide))) (by exact (ev_l1 e108 (by decide) (by decide))) (by exact (ev_lk_st1 e110 (by decide) rfl)) (by exact ev_lk_st1_self) (by exact (ev_l1 e111 (by decide) (by decide))) (by exact (ev_l1 e112 (by decide) (by decide)))
                · intro K260 hK260
                  refine ev_r_icmp (pc := 249) (q := .ne) (o := 7) (t := 256) (c := x55 ≠ (-1)) (by decide +kernel) (ev_k_ne hx55 (by decide)) (by decide +kernel) ?_ ?_
                  · intro c142
                    refine ev_r_iload (pc := 256) (k := 7) (v := Int32.ofInt x11) (by decide +kernel) (by exact (ev_l1 e96 (by decide) (by decide))) ?_
                    refine ev_r_iconst (pc := 258) (k := 1) (by decide +kernel) ?_
                    refine ev_r_iadd (pc := 259) (by decide +kernel) ?_
                    intro x143 hx143
                    exact hK260 x101 hx101 x143 hx143 s100 _ (by exact (ev_l1 e91 (by decide) (by decide))) (by exact (ev_l1 e92 (by decide) (by decide))) (by exact (ev_l1 e93 (by decide) (by decide))) (by exact (ev_l1 e94 (by decide) (by decide))) (by exact (ev_lk_st1 e95 (by decide) rfl)) (by exact ev_lk_st1_self) (by exact (ev_l1 e97 (by decide) (by decide))) (by exact (ev_l1 e98 (by decide) (by decide)))
                  · intro c142
                    refine ev_r_iconst (pc := 252) (k := 0) (by decide +kernel) ?_
                    refine ev_r_goto (pc := 253) (o := 7) (t := 260) (by decide +kernel) (by decide +kernel) ?_
                    exact hK260 x101 hx101 0 (by decide) s100 _ (by exact (ev_l1 e91 (by decide) (by decide))) (by exact (ev_l1 e92 (by decide) (by decide))) (by exact (ev_l1 e93 (by decide) (by decide))) (by exact (ev_l1 e94 (by decide) (by decide))) (by exact (ev_lk_st1 e95 (by decide) rfl)) (by exact ev_lk_st1_self) (by exact (ev_l1 e97 (by decide) (by decide))) (by exact (ev_l1 e98 (by decide) (by decide)))
              · intro K243 hK243
                refine ev_r_icmp (pc := 235) (q := .ne) (o := 7) (t := 242) (c := x55 ≠ (-1)) (by decide +kernel) (ev_k_ne hx55 (by decide)) (by decide +kernel) ?_ ?_
                · intro c144
                  refine ev_r_iconst (pc := 242) (k := 1) (by decide +kernel) ?_
                  exact hK243 1 (by decide) x10 hx10 s87 _ (by exact (ev_l1 e58 (by decide) (by decide))) (by exact (ev_l1 e59 (by decide) (by decide))) (by exact (ev_l1 e60 (by decide) (by decide))) (by exact (ev_l1 e61 (by decide) (by decide))) (by exact (ev_l1 e62 (by decide) (by decide))) (by exact (ev_l1 e64 (by decide) (by decide))) (by exact (ev_l1 e65 (by decide) (by decide))) (by exact (ev_l1 e66 (by decide) (by decide))) (by exact (ev_lk_st1 e67 (by decide) rfl))
                · intro c144
                  refine ev_r_iconst (pc := 238) (k := 0) (by decide +kernel) ?_
                  refine ev_r_goto (pc := 239) (o := 4) (t := 243) (by decide +kernel) (by decide +kernel) ?_
                  exact hK243 0 (by decide) x10 hx10 s87 _ (by exact (ev_l1 e58 (by decide) (by decide))) (by exact (ev_l1 e59 (by decide) (by decide))) (by exact (ev_l1 e60 (by decide) (by decide))) (by exact (ev_l1 e61 (by decide) (by decide))) (by exact (ev_l1 e62 (by decide) (by decide))) (by exact (ev_l1 e64 (by decide) (by decide))) (by exact (ev_l1 e65 (by decide) (by decide))) (by exact (ev_l1 e66 (by decide) (by decide))) (by exact (ev_lk_st1 e67 (by decide) rfl))
            · intro c86
              refine ev_r_aload_n (pc := 185) (k := 0) (v := .ref 621) trivial (by decide +kernel) (by exact (ev_l1 e58 (by decide) (by decide))) ?_
              refine ev_r_getC (pc := 186) (y := 126) (ci := 13) (f := 52) (fin := 1) (k' := 660) (by decide +kernel) (by decide +kernel) (by exact ev_ob_621) rfl rfl ?_
              refine ev_r_iload (pc := 189) (k := 8) (v := Int32.ofInt x12) (by decide +kernel) (by exact (ev_l1 e65 (by decide) (by decide))) ?_
              refine ev_r_aload_n (pc := 191) (k := 0) (v := .ref 621) trivial (by decide +kernel) (by exact (ev_l1 e58 (by decide) (by decide))) ?_
              refine ev_r_getC (pc := 192) (y := 25) (ci := 13) (f := 8) (fin := 1) (k' := 627) (by decide +kernel) (by decide +kernel) (by exact ev_ob_621) rfl rfl ?_
              refine ev_r_iload (pc := 195) (k := 10) (v := Int32.ofInt x39) (by decide +kernel) (by exact (ev_l1 e66 (by decide) (by decide))) ?_
              refine ev_r_iald (pc := 197) hx39 (by decide +kernel) (by exact ev_ab_627) ?_
              intro x145 hx145
              refine ev_r_iast (pc := 198) hx145 hx12 (by decide +kernel) (by exact ev_ab_660) ?_
              intro s146
              refine ev_r_iinc (pc := 199) (k := 8) (c := 1) (x := x12) (by decide +kernel) (by decide +kernel) (by exact (ev_l1 e65 (by decide) (by decide))) (fun _ => rfl) ?_
              intro x147 hx147
              refine ev_r_aload_n (pc := 202) (k := 0) (v := .ref 621) trivial (by decide +kernel) (by exact (ev_l1 (ev_l1 e58 (by decide) (by decide)) (by decide) (by decide))) ?_
              refine ev_r_getC (pc := 203) (y := 22) (ci := 13) (f := 7) (fin := 1) (k' := 626) (by decide +kernel) (by decide +kernel) (by exact ev_ob_621) rfl rfl ?_
              refine ev_r_iload_n (pc := 206) (k := 3) (v := Int32.ofInt x7) (by decide +kernel) (by exact (ev_l1 (ev_l1 e60 (by decide) (by decide)) (by decide) (by decide))) ?_
              refine ev_r_aload_n (pc := 207) (k := 0) (v := .ref 621) trivial (by decide +kernel) (by exact (ev_l1 (ev_l1 e58 (by decide) (by decide)) (by decide) (by decide))) ?_
              refine ev_r_getC (pc := 208) (y := 22) (ci := 13) (f := 7) (fin := 1) (k' := 626) (by decide +kernel) (by decide +kernel) (by exact ev_ob_621) rfl rfl ?_
              refine ev_r_iload (pc := 211) (k := 10) (v := Int32.ofInt x39) (by decide +kernel) (by exact (ev_l1 (ev_l1 e66 (by decide) (by decide)) (by decide) (by decide))) ?_
              refine ev_r_iald (pc := 213) hx39 (by decide +kernel) (by exact ev_ab_626) ?_
              intro x148 hx148
              refine ev_r_iadd (pc := 214) (by decide +kernel) ?_
              intro x149 hx149
              refine ev_r_iald (pc := 215) hx149 (by decide +kernel) (by exact ev_ab_626) ?_
              intro x150 hx150
              refine ev_r_istore (pc := 216) (k := 9) (by decide +kernel) (by decide +kernel) rfl ?_
              refine ev_r_goto (pc := 218) (o := 88) (t := 306) (by decide +kernel) (by decide +kernel) ?_
              exact hK306 x8 hx8 x9 hx9 x10 hx10 x11 hx11 x147 hx147 x150 hx150 s146 _ (by exact (ev_l1 (ev_l1 (ev_l1 e58 (by decide) (by decide)) (by decide) (by decide)) (by decide) (by decide))) (by exact (ev_l1 (ev_l1 (ev_l1 e59 (by decide) (by decide)) (by decide) (by decide)) (by decide) (by decide))) (by exact (ev_l1 (ev_l1 (ev_l1 e60 (by decide) (by decide)) (by decide) (by decide)) (by decide) (by decide))) (by exact (ev_l1 (ev_l1 (ev_l1 e61 (by decide) (by decide)) (by decide) (by decide)) (by decide) (by decide))) (by exact (ev_l1 (ev_l1 (ev_l1 e62 (by decide) (by decide)) (by decide) (by decide)) (by decide) (by decide))) (by exact (ev_l1 (ev_l1 (ev_l1 e63 (by decide) (by decide)) (by decide) (by decide)) (by decide) (by decide))) (by exact (ev_l1 (ev_lk_st1 (ev_l1 e64 (by decide) (by decide)) (by decide) rfl) (by decide) (by decide))) (by exact (ev_lk_st1 ev_lk_st1_self (by decide) rfl)) (by exact ev_lk_st1_self)
        · intro K178 hK178
          refine ev_r_jn (Q := fun K => ∀ (x151 : Int) (hx151 : ev_rng x151), ∀ (s163 : ev_St) (w152 : List (Nat × Value)), ev_lk w152 0 = some (.ref 621) → ev_lk w152 2 = some (.int (Int32.ofInt a1)) → ev_lk w152 3 = some (.int (Int32.ofInt x7)) → ev_lk w152 4 = some (.int (Int32.ofInt x8)) → ev_lk w152 5 = some (.int (Int32.ofInt x9)) → ev_lk w152 6 = some (.int (Int32.ofInt x10)) → ev_lk w152 7 = some (.int (Int32.ofInt x11)) → ev_lk w152 8 = some (.int (Int32.ofInt x12)) → ev_lk w152 10 = some (.int (Int32.ofInt x39)) → ev_lk w152 11 = some (.int (Int32.ofInt x151)) → ev_w none (ev_Mof 279) d 177 w152 [] s163 (K x151 s163) ev_eI ev_rng) ?_ ?_
          · intro x151 hx151 s163 w152 e153 e154 e155 e156 e157 e158 e159 e160 e161 e162
            refine ev_r_iconst (pc := 177) (k := 0) (by decide +kernel) ?_
            exact hK178 x151 hx151 0 (by decide) s163 _ (by exact e153) (by exact e154) (by exact e155) (by exact e156) (by exact e157) (by exact e158) (by exact e159) (by exact e160) (by exact e161) (by exact e162)
          · intro K177 hK177
            refine ev_r_if (pc := 141) (q := .eq) (o := 36) (t := 177) (c := x54 = 0) (by decide +kernel) (ev_k_eq hx54 ev_rng0) (by decide +kernel) ?_ ?_
            · intro c164
              exact hK177 x40 hx40 s53 _ (by exact (ev_l1 e42 (by decide) (by decide))) (by exact (ev_l1 e43 (by decide) (by decide))) (by exact (ev_l1 e44 (by decide) (by decide))) (by exact (ev_l1 e45 (by decide) (by decide))) (by exact (ev_l1 e46 (by decide) (by decide))) (by exact (ev_l1 e47 (by decide) (by decide))) (by exact (ev_l1 e48 (by decide) (by decide))) (by exact (ev_l1 e49 (by decide) (by decide))) (by exact (ev_lk_st1 e50 (by decide) rfl)) (by exact ev_lk_st1_self)
            · intro c164
              refine ev_r_aload_n (pc := 144) (k := 0) (v := .ref 621) trivial (by decide +kernel) (by exact (ev_l1 e42 (by decide) (by decide))) ?_
              refine ev_r_getC (pc := 145) (y := 34) (ci := 13) (f := 11) (fin := 1) (k' := 630) (by decide +kernel) (by decide +kernel) (by exact ev_ob_621) rfl rfl ?_
              refine ev_r_iload (pc := 148) (k := 10) (v := Int32.ofInt x39) (by decide +kernel) (by exact (ev_lk_st1 e50 (by decide) rfl)) ?_
              refine ev_r_iald (pc := 150) hx39 (by decide +kernel) (by exact ev_ab_630) ?_
              intro x165 hx165
              refine ev_r_iconst (pc := 151) (k := -1) (by decide +kernel) ?_
              refine ev_r_icmp (pc := 152) (q := .ne) (o := 25) (t := 177) (c := x165 ≠ (-1)) (by decide +kernel) (ev_k_ne hx165 (by decide)) (by decide +kernel) ?_ ?_
              · intro c166
                exact hK177 x40 hx40 s53 _ (by exact (ev_l1 e42 (by decide) (by decide))) (by exact (ev_l1 e43 (by decide) (by decide))) (by exact (ev_l1 e44 (by decide) (by decide))) (by exact (ev_l1 e45 (by decide) (by decide))) (by exact (ev_l1 e46 (by decide) (by decide))) (by exact (ev_l1 e47 (by decide) (by decide))) (by exact (ev_l1 e48 (by decide) (by decide))) (by exact (ev_l1 e49 (by decide) (by decide))) (by exact (ev_lk_st1 e50 (by decide) rfl)) (by exact ev_lk_st1_self)
              · intro c166
                refine ev_r_aload_n (pc := 155) (k := 0) (v := .ref 621) trivial (by decide +kernel) (by exact (ev_l1 e42 (by decide) (by decide))) ?_
                refine ev_r_getC (pc := 156) (y := 25) (ci := 13) (f := 8) (fin := 1) (k' := 627) (by decide +kernel) (by decide +kernel) (by exact ev_ob_621) rfl rfl ?_
                refine ev_r_iload_n (pc := 159) (k := 3) (v := Int32.ofInt x7) (by decide +kernel) (by exact (ev_l1 e44 (by decide) (by decide))) ?_
                refine ev_r_aload_n (pc := 160) (k := 0) (v := .ref 621) trivial (by decide +kernel) (by exact (ev_l1 e42 (by decide) (by decide))) ?_
                refine ev_r_getC (pc := 161) (y := 22) (ci := 13) (f := 7) (fin := 1) (k' := 626) (by decide +kernel) (by decide +kernel) (by exact ev_ob_621) rfl rfl ?_
                refine ev_r_iload (pc := 164) (k := 10) (v := Int32.ofInt x39) (by decide +kernel) (by exact (ev_lk_st1 e50 (by decide) rfl)) ?_
                refine ev_r_iald (pc := 166) hx39 (by decide +kernel) (by exact ev_ab_626) ?_
                intro x167 hx167
                refine ev_r_iadd (pc := 167) (by decide +kernel) ?_
                intro x168 hx168
                refine ev_r_iald (pc := 168) hx168 (by decide +kernel) (by exact ev_ab_627) ?_
                intro x169 hx169
                refine ev_r_iconst (pc := 169) (k := -1) (by decide +kernel) ?_
                refine ev_r_icmp (pc := 170) (q := .ne) (o := 7) (t := 177) (c := x169 ≠ (-1)) (by decide +kernel) (ev_k_ne hx169 (by decide)) (by decide +kernel) ?_ ?_
                · intro c170
                  exact hK177 x40 hx40 s53 _ (by exact (ev_l1 e42 (by decide) (by decide))) (by exact (ev_l1 e43 (by decide) (by decide))) (by exact (ev_l1 e44 (by decide) (by decide))) (by exact (ev_l1 e45 (by decide) (by decide))) (by exact (ev_l1 e46 (by decide) (by decide))) (by exact (ev_l1 e47 (by decide) (by decide))) (by exact (ev_l1 e48 (by decide) (by decide))) (by exact (ev_l1 e49 (by decide) (by decide))) (by exact (ev_lk_st1 e50 (by decide) rfl)) (by exact ev_lk_st1_self)
                · intro c170
                  refine ev_r_iconst (pc := 173) (k := 1) (by decide +kernel) ?_
                  refine ev_r_goto (pc := 174) (o := 4) (t := 178) (by decide +kernel) (by decide +kernel) ?_
                  exact hK178 x40 hx40 1 (by decide) s53 _ (by exact (ev_l1 e42 (by decide) (by decide))) (by exact (ev_l1 e43 (by decide) (by decide))) (by exact (ev_l1 e44 (by decide) (by decide))) (by exact (ev_l1 e45 (by decide) (by decide))) (by exact (ev_l1 e46 (by decide) (by decide))) (by exact (ev_l1 e47 (by decide) (by decide))) (by exact (ev_l1 e48 (by decide) (by decide))) (by exact (ev_l1 e49 (by decide) (by decide))) (by exact (ev_lk_st1 e50 (by decide) rfl)) (by exact ev_lk_st1_self)
      · intro K129 hK129
        refine ev_r_jn (Q := fun K => ∀ (x171 : Int) (hx171 : ev_rng x171), ∀ (s182 : ev_St) (w172 : List (Nat × Value)), ev_lk w172 0 = some (.ref 621) → ev_lk w172 2 = some (.int (Int32.ofInt a1)) → ev_lk w172 3 = some (.int (Int32.ofInt x7)) → ev_lk w172 4 = some (.int (Int32.ofInt x8)) → ev_lk w172 5 = some (.int (Int32.ofInt x9)) → ev_lk w172 6 = some (.int (Int32.ofInt x10)) → ev_lk w172 7 = some (.int (Int32.ofInt x11)) → ev_lk w172 8 = some (.int (Int32.ofInt x12)) → ev_lk w172 10 = some (.int (Int32.ofInt x171)) → ev_w none (ev_Mof 279) d 128 w172 [] s182 (K x171 s182) ev_eI ev_rng) ?_ ?_
        · intro x171 hx171 s182 w172 e173 e174 e175 e176 e177 e178 e179 e180 e181
          refine ev_r_iconst (pc := 128) (k := -1) (by decide +kernel) ?_
          exact hK129 x171 hx171 ((-1)) (by decide) s182 _ (by exact e173) (by exact e174) (by exact e175) (by exact e176) (by exact e177) (by exact e178) (by exact e179) (by exact e180) (by exact e181)
        · intro K128 hK128
          refine ev_r_if (pc := 105) (q := .ne) (o := 23) (t := 128) (c := x38 ≠ 0) (by decide +kernel) (ev_k_ne hx38 ev_rng0) (by decide +kernel) ?_ ?_
          · intro c183
            exact hK128 x37 hx37 s35 _ (by exact (ev_l1 e26 (by decide) (by decide))) (by exact (ev_l1 e27 (by decide) (by decide))) (by exact (ev_l1 e28 (by decide) (by decide))) (by exact (ev_l1 e29 (by decide) (by decide))) (by exact (ev_l1 e30 (by decide) (by decide))) (by exact (ev_l1 e31 (by decide) (by decide))) (by exact (ev_l1 e32 (by decide) (by decide))) (by exact (ev_l1 e33 (by decide) (by decide))) (by exact ev_lk_st1_self)
          · intro c183
            refine ev_r_aload_n (pc := 108) (k := 0) (v := .ref 621) trivial (by decide +kernel) (by exact (ev_l1 e26 (by decide) (by decide))) ?_
            refine ev_r_getC (pc := 109) (y := 34) (ci := 13) (f := 11) (fin := 1) (k' := 630) (by decide +kernel) (by decide +kernel) (by exact ev_ob_621) rfl rfl ?_
            refine ev_r_iload (pc := 112) (k := 10) (v := Int32.ofInt x37) (by decide +kernel) (by exact ev_lk_st1_self) ?_
            refine ev_r_iald (pc := 114) hx37 (by decide +kernel) (by exact ev_ab_630) ?_
            intro x184 hx184
            refine ev_r_iconst (pc := 115) (k := -1) (by decide +kernel) ?_
            refine ev_r_icmp (pc := 116) (q := .ne) (o := 12) (t := 128) (c := x184 ≠ (-1)) (by decide +kernel) (ev_k_ne hx184 (by decide)) (by decide +kernel) ?_ ?_
            · intro c185
              exact hK128 x37 hx37 s35 _ (by exact (ev_l1 e26 (by decide) (by decide))) (by exact (ev_l1 e27 (by decide) (by decide))) (by exact (ev_l1 e28 (by decide) (by decide))) (by exact (ev_l1 e29 (by decide) (by decide))) (by exact (ev_l1 e30 (by decide) (by decide))) (by exact (ev_l1 e31 (by decide) (by decide))) (by exact (ev_l1 e32 (by decide) (by decide))) (by exact (ev_l1 e33 (by decide) (by decide))) (by exact ev_lk_st1_self)
            · intro c185
              refine ev_r_aload_n (pc := 119) (k := 0) (v := .ref 621) trivial (by decide +kernel) (by exact (ev_l1 e26 (by decide) (by decide))) ?_
              refine ev_r_iload (pc := 120) (k := 10) (v := Int32.ofInt x37) (by decide +kernel) (by exact ev_lk_st1_self) ?_
              refine ev_r_virt (pc := 122) (y := 542) (mi := 278) (na := 1) (k := 621) (as := [.int (Int32.ofInt x37)]) (rest := []) (encc := ev_oI) (Q := ev_rng) (fun x S1 h => jt_278 d (by omega) Q x37 hx37 s35 x S1 h) (by exact ev_ob_621) (by decide +kernel) (by decide +kernel) (by decide +kernel) (by decide +kernel) rfl (by (try simp only [ev_sum, ev_nv_cat]); first | done | rfl) ?_
              intro x187 s186 hx187
              show ev_w _ _ _ _ _ [.int (Int32.ofInt x187)] _ _ _ _
              refine ev_r_goto (pc := 125) (o := 4) (t := 129) (by decide +kernel) (by decide +kernel) ?_
              exact hK129 x37 hx37 x187 hx187 s186 _ (by exact (ev_l1 e26 (by decide) (by decide))) (by exact (ev_l1 e27 (by decide) (by decide))) (by exact (ev_l1 e28 (by decide) (by decide))) (by exact (ev_l1 e29 (by decide) (by decide))) (by exact (ev_l1 e30 (by decide) (by decide))) (by exact (ev_l1 e31 (by decide) (by decide))) (by exact (ev_l1 e32 (by decide) (by decide))) (by exact (ev_l1 e33 (by decide) (by decide))) (by exact ev_lk_st1_self)
    · intro c36
      refine ev_r_iinc (pc := 77) (k := 8) (c := -1) (x := x12) (by decide +kernel) (by decide +kernel) (by exact e33) (fun _ => rfl) ?_
      intro x188 hx188
      refine ev_r_aload_n (pc := 80) (k := 0) (v := .ref 621) trivial (by decide +kernel) (by exact (ev_l1 e26 (by decide) (by decide))) ?_
      refine ev_r_getC (pc := 81) (y := 126) (ci := 13) (f := 52) (fin := 1) (k' := 660) (by decide +kernel) (by decide +kernel) (by exact ev_ob_621) rfl rfl ?_
      refine ev_r_iload (pc := 84) (k := 8) (v := Int32.ofInt x188) (by decide +kernel) (by exact ev_lk_st1_self) ?_
      refine ev_r_iald (pc := 86) hx188 (by decide +kernel) (by exact ev_ab_660) ?_
      intro x189 hx189
      refine ev_r_istore (pc := 87) (k := 9) (by decide +kernel) (by decide +kernel) rfl ?_
      refine ev_r_goto (pc := 89) (o := (-29)) (t := 60) (by decide +kernel) (by decide +kernel) ?_
      exact hK60 x7 hx7 x8 hx8 x9 hx9 x10 hx10 x11 hx11 x188 hx188 x189 hx189 s35 _ (by exact (ev_l1 (ev_l1 e26 (by decide) (by decide)) (by decide) (by decide))) (by exact (ev_l1 (ev_l1 e27 (by decide) (by decide)) (by decide) (by decide))) (by exact (ev_l1 (ev_l1 e28 (by decide) (by decide)) (by decide) (by decide))) (by exact (ev_l1 (ev_l1 e29 (by decide) (by decide)) (by decide) (by decide))) (by exact (ev_l1 (ev_l1 e30 (by decide) (by decide)) (by decide) (by decide))) (by exact (ev_l1 (ev_l1 e31 (by decide) (by decide)) (by decide) (by decide))) (by exact (ev_l1 (ev_lk_st1 e32 (by decide) rfl) (by decide) (by decide))) (by exact (ev_lk_st1 ev_lk_st1_self (by decide) rfl)) (by exact ev_lk_st1_self)
  · intro K71 hK71
    refine ev_r_icmp (pc := 63) (q := .ne) (o := 8) (t := 71) (c := x13 ≠ (-1)) (by decide +kernel) (ev_k_ne hx13 (by decide)) (by decide +kernel) ?_ ?_
    · intro c190
      exact hK71  s24 _ (by exact e15) (by exact e16) (by exact e17) (by exact e18) (by exact e19) (by exact e20) (by exact e21) (by exact e22) (by exact e23)
    · intro c190
      refine ev_r_iload (pc := 66) (k := 8) (v := Int32.ofInt x12) (by decide +kernel) (by exact e22) ?_
      refine ev_r_if (pc := 68) (q := .le) (o := 241) (t := 309) (c := x12 ≤ 0) (by decide +kernel) (ev_k_le hx12 ev_rng0) (by decide +kernel) ?_ ?_
      · intro c191
        refine ev_r_iload_n (pc := 309) (k := 2) (v := Int32.ofInt a1) (by decide +kernel) (by exact e16) ?_
        refine ev_r_iload (pc := 310) (k := 4) (v := Int32.ofInt x8) (by decide +kernel) (by exact e18) ?_
        refine ev_r_icmp (pc := 312) (q := .ge) (o := 15) (t := 327) (c := x8 ≤ a1) (by decide +kernel) (ev_k_ge ha1 hx8) (by decide +kernel) ?_ ?_
        · intro c192
          refine ev_r_iconst (pc := 327) (k := -1) (by decide +kernel) ?_
          exact ev_r_ireturn (pc := 328) (x := (-1)) (v := Int32.ofInt ((-1))) (ty := .int) (by decide) (by decide +kernel) (by decide +kernel) rfl rfl
        · intro c192
          refine ev_r_aload_n (pc := 315) (k := 0) (v := .ref 621) trivial (by decide +kernel) (by exact e15) ?_
          refine ev_r_getC (pc := 316) (y := 129) (ci := 13) (f := 53) (fin := 1) (k' := 661) (by decide +kernel) (by decide +kernel) (by exact ev_ob_621) rfl rfl ?_
          refine ev_r_iload (pc := 319) (k := 5) (v := Int32.ofInt x9) (by decide +kernel) (by exact e19) ?_
          refine ev_r_iload_n (pc := 321) (k := 2) (v := Int32.ofInt a1) (by decide +kernel) (by exact e16) ?_
          refine ev_r_iadd (pc := 322) (by decide +kernel) ?_
          intro x193 hx193
          refine ev_r_iald (pc := 323) hx193 (by decide +kernel) (by exact ev_ab_661) ?_
          intro x194 hx194
          refine ev_r_goto (pc := 324) (o := 4) (t := 328) (by decide +kernel) (by decide +kernel) ?_
          exact ev_r_ireturn (pc := 328) (x := x194) (v := Int32.ofInt x194) (ty := .int) hx194 (by decide +kernel) (by decide +kernel) rfl rfl
      · intro c191
        exact hK71  s24 _ (by exact e15) (by exact e16) (by exact e17) (by exact e18) (by exact e19) (by exact e20) (by exact e21) (by exact e22) (by exact e23)
theorem jlt_279_60 (d : Nat) (hd : 4 ≤ d + 1) (Q : Nat) (a1 : Int) (ha1 : ev_rng a1)   : ∀ q : Nat, ∀ (x7 : Int) (hx7 : ev_rng x7), ∀ (x8 : Int) (hx8 : ev_rng x8), ∀ (x9 : Int) (hx9 : ev_rng x9), ∀ (x10 : Int) (hx10 : ev_rng x10), ∀ (x11 : Int) (hx11 : ev_rng x11), ∀ (x12 : Int) (hx12 : ev_rng x12), ∀ (x13 : Int) (hx13 : ev_rng x13), ∀ (s24 : ev_St) (w14 : List (Nat × Value)), ev_lk w14 0 = some (.ref 621) → ev_lk w14 2 = some (.int (Int32.ofInt a1)) → ev_lk w14 3 = some (.int (Int32.ofInt x7)) → ev_lk w14 4 = some (.int (Int32.ofInt x8)) → ev_lk w14 5 = some (.int (Int32.ofInt x9)) → ev_lk w14 6 = some (.int (Int32.ofInt x10)) → ev_lk w14 7 = some (.int (Int32.ofInt x11)) → ev_lk w14 8 = some (.int (Int32.ofInt x12)) → ev_lk w14 9 = some (.int (Int32.ofInt x13)) → ev_w none (ev_Mof 279) d 60 w14 [] s24 (jl_279_60 Q a1  q x7 x8 x9 x10 x11 x12 x13 s24) ev_eI ev_rng := by
  intro q
  induction q with
  | zero =>
    intro x7 hx7 x8 hx8 x9 hx9 x10 hx10 x11 hx11 x12 hx12 x13 hx13 s24 w14 e15 e16 e17 e18 e19 e20 e21 e22 e23
    exact ev_w_none
  | succ q ih => exact jbt_279_60 d hd Q a1 ha1   _ ih
/-- MendBenchModel.literal(II)I -/
def jm_279 (Q : Nat) (a0 : Int) (a1 : Int) (S : ev_St) : Option ((Int) × ev_St) := ev_b (ev_pI S 621 0 0) fun s1 => ev_bd (jm_273 Q a0 s1) fun x3 s2 => if x3 ≠ 0 then (if 0 ≤ a1 then (ev_ck (320 * a0) fun x6 => ev_if ((0 : Int) ≤ 0 ∧ 0 < (ev_aln 660 : Int)) (ev_b (ev_pI s2 660 (Int.toNat 0) ((-1))) fun s195 => jl_279_60 Q a1  Q x6 0 0 0 0 0 0 s195)) else (ev_bd (jm_221 Q 2 s2) fun x197 s196 => some (x197, s196))) else (ev_bd (jm_221 Q 1 s2) fun x199 s198 => some (x199, s198))
theorem jt_279 (d : Nat) (hd : 4 ≤ d) (Q : Nat) (a0 : Int) (a1 : Int) (ha0 : ev_rng a0) (ha1 : ev_rng a1) (S : ev_St) (x : Int) (S' : ev_St) (hJ : jm_279 Q a0 a1 S = some (x, S')) : ev_Ref d 279 [.ref 621, .int (Int32.ofInt a0), .int (Int32.ofInt a1)] S (ev_eI x) S' (ev_rng x) := by
  obtain ⟨d, rfl⟩ : ∃ e, d = e + 1 := ⟨d - 1, by omega⟩
  refine ev_ref_of (P := ev_rng) (lv := [(0, .ref 621), (1, .int (Int32.ofInt a0)), (2, .int (Int32.ofInt a1))]) (by decide +kernel) (by (try simp only [ev_sum, ev_nv_cat]); first | done | rfl) (by (try simp only [lv_args, ev_nv_cat]); first | done | rfl) ?_ x S' hJ
  unfold jm_279
  refine ev_r_aload_n (pc := 0) (k := 0) (v := .ref 621) trivial (by decide +kernel) (by rfl) ?_
  refine ev_r_iconst (pc := 1) (k := 0) (by decide +kernel) ?_
  refine ev_r_putI (pc := 2) (y := 321) (ci := 13) (f := 0) (by decide) (by decide +kernel) (by decide +kernel) (by exact ev_ob_621) rfl rfl ?_
  intro s1
  refine ev_r_aload_n (pc := 5) (k := 0) (v := .ref 621) trivial (by decide +kernel) (by rfl) ?_
  refine ev_r_iload_n (pc := 6) (k := 1) (v := Int32.ofInt a0) (by decide +kernel) (by rfl) ?_
  refine ev_r_virt (pc := 7) (y := 531) (mi := 273) (na := 1) (k := 621) (as := [.int (Int32.ofInt a0)]) (rest := []) (encc := ev_oI) (Q := ev_bl) (fun x S1 h => jt_273 d (by omega) Q a0 ha0 s1 x S1 h) (by exact ev_ob_621) (by decide +kernel) (by decide +kernel) (by decide +kernel) (by decide +kernel) rfl (by (try simp only [ev_sum, ev_nv_cat]); first | done | rfl) ?_
  intro x3 s2 hx3
  replace hx3 := ev_bl_rng hx3
  show ev_w _ _ _ _ _ [.int (Int32.ofInt x3)] _ _ _ _
  refine ev_r_if (pc := 10) (q := .ne) (o := 9) (t := 19) (c := x3 ≠ 0) (by decide +kernel) (ev_k_ne hx3 ev_rng0) (by decide +kernel) ?_ ?_
  · intro c4
    refine ev_r_iload_n (pc := 19) (k := 2) (v := Int32.ofInt a1) (by decide +kernel) (by rfl) ?_
    refine ev_r_if (pc := 20) (q := .ge) (o := 9) (t := 29) (c := 0 ≤ a1) (by decide +kernel) (ev_k_ge ha1 ev_rng0) (by decide +kernel) ?_ ?_
    · intro c5
      refine ev_r_sipush (pc := 29) (k := 320) (by decide +kernel) (by decide +kernel) ?_
      refine ev_r_iload_n (pc := 32) (k := 1) (v := Int32.ofInt a0) (by decide +kernel) (by rfl) ?_
      refine ev_r_imul (pc := 33) (by decide +kernel) ?_
      intro x6 hx6
      refine ev_r_istore_n (pc := 34) (k := 3) (by decide +kernel) (by decide +kernel) rfl ?_
      refine ev_r_iconst (pc := 35) (k := 0) (by decide +kernel) ?_
      refine ev_r_istore (pc := 36) (k := 4) (by decide +kernel) (by decide +kernel) rfl ?_
      refine ev_r_iconst (pc := 38) (k := 0) (by decide +kernel) ?_
      refine ev_r_istore (pc := 39) (k := 5) (by decide +kernel) (by decide +kernel) rfl ?_
      refine ev_r_iconst (pc := 41) (k := 0) (by decide +kernel) ?_
      refine ev_r_istore (pc := 42) (k := 6) (by decide +kernel) (by decide +kernel) rfl ?_
      refine ev_r_iconst (pc := 44) (k := 0) (by decide +kernel) ?_
      refine ev_r_istore (pc := 45) (k := 7) (by decide +kernel) (by decide +kernel) rfl ?_
      refine ev_r_iconst (pc := 47) (k := 0) (by decide +kernel) ?_
      refine ev_r_istore (pc := 48) (k := 8) (by decide +kernel) (by decide +kernel) rfl ?_
      refine ev_r_iconst (pc := 50) (k := 0) (by decide +kernel) ?_
      refine ev_r_istore (pc := 51) (k := 9) (by decide +kernel) (by decide +kernel) rfl ?_
      refine ev_r_aload_n (pc := 53) (k := 0) (v := .ref 621) trivial (by decide +kernel) (by exact (ev_l1 (ev_l1 (ev_l1 (ev_l1 (ev_l1 (ev_l1 (ev_l1 (by rfl) (by decide) (by decide)) (by decide) (by decide)) (by decide) (by decide)) (by decide) (by decide)) (by decide) (by decide)) (by decide) (by decide)) (by decide) (by decide))) ?_
      refine ev_r_getC (pc := 54) (y := 126) (ci := 13) (f := 52) (fin := 1) (k' := 660) (by decide +kernel) (by decide +kernel) (by exact ev_ob_621) rfl rfl ?_
      refine ev_r_iconst (pc := 57) (k := 0) (by decide +kernel) ?_
      refine ev_r_iconst (pc := 58) (k := -1) (by decide +kernel) ?_
      refine ev_r_iast (pc := 59) (by decide) (by decide) (by decide +kernel) (by exact ev_ab_660) ?_
      intro s195
      exact jlt_279_60 d hd Q a1 ha1   Q x6 hx6 0 (by decide) 0 (by decide) 0 (by decide) 0 (by decide) 0 (by decide) 0 (by decide) s195 _ (by exact (ev_l1 (ev_l1 (ev_l1 (ev_l1 (ev_l1 (ev_l1 (ev_l1 (by rfl) (by decide) (by decide)) (by decide) (by decide)) (by decide) (by decide)) (by decide) (by decide)) (by decide) (by decide)) (by decide) (by decide)) (by decide) (by decide))) (by exact (ev_l1 (ev_l1 (ev_l1 (ev_l1 (ev_l1 (ev_l1 (ev_lk_st1 (by rfl) (by decide) rfl) (by decide) (by decide)) (by decide) (by decide)) (by decide) (by decide)) (by decide) (by decide)) (by decide) (by decide)) (by decide) (by decide))) (by exact (ev_l1 (ev_l1 (ev_l1 (ev_l1 (ev_l1 (ev_lk_st1 ev_lk_st1_self (by decide) rfl) (by decide) (by decide)) (by decide) (by decide)) (by decide) (by decide)) (by decide) (by decide)) (by decide) (by decide))) (by exact (ev_l1 (ev_l1 (ev_l1 (ev_l1 (ev_lk_st1 ev_lk_st1_self (by decide) rfl) (by decide) (by decide)) (by decide) (by decide)) (by decide) (by decide)) (by decide) (by decide))) (by exact (ev_l1 (ev_l1 (ev_l1 (ev_lk_st1 ev_lk_st1_self (by decide) rfl) (by decide) (by decide)) (by decide) (by decide)) (by decide) (by decide))) (by exact (ev_l1 (ev_l1 (ev_lk_st1 ev_lk_st1_self (by decide) rfl) (by decide) (by decide)) (by decide) (by decide))) (by exact (ev_l1 (ev_lk_st1 ev_lk_st1_self (by decide) rfl) (by decide) (by decide))) (by exact (ev_lk_st1 ev_lk_st1_self (by decide) rfl)) (by exact ev_lk_st1_self)
    · intro c5
      refine ev_r_aload_n (pc := 23) (k := 0) (v := .ref 621) trivial (by decide +kernel) (by rfl) ?_
      refine ev_r_iconst (pc := 24) (k := 2) (by decide +kernel) ?_
      refine ev_r_virt (pc := 25) (y := 342) (mi := 221) (na := 1) (k := 621) (as := [.int (Int32.ofInt 2)]) (rest := []) (encc := ev_oI) (Q := ev_rng) (fun x S1 h => jt_221 d (by omega) Q 2 (by decide) s2 x S1 h) (by exact ev_ob_621) (by decide +kernel) (by decide +kernel) (by decide +kernel) (by decide +kernel) rfl (by (try simp only [ev_sum, ev_nv_cat]); first | done | rfl) ?_
      intro x197 s196 hx197
      show ev_w _ _ _ _ _ [.int (Int32.ofInt x197)] _ _ _ _
      exact ev_r_ireturn (pc := 28) (x := x197) (v := Int32.ofInt x197) (ty := .int) hx197 (by decide +kernel) (by decide +kernel) rfl rfl
  · intro c4
    refine ev_r_aload_n (pc := 13) (k := 0) (v := .ref 621) trivial (by decide +kernel) (by rfl) ?_
    refine ev_r_iconst (pc := 14) (k := 1) (by decide +kernel) ?_
    refine ev_r_virt (pc := 15) (y := 342) (mi := 221) (na := 1) (k := 621) (as := [.int (Int32.ofInt 1)]) (rest := []) (encc := ev_oI) (Q := ev_rng) (fun x S1 h => jt_221 d (by omega) Q 1 (by decide) s2 x S1 h) (by exact ev_ob_621) (by decide +kernel) (by decide +kernel) (by decide +kernel) (by decide +kernel) rfl (by (try simp only [ev_sum, ev_nv_cat]); first | done | rfl) ?_
    intro x199 s198 hx199
    show ev_w _ _ _ _ _ [.int (Int32.ofInt x199)] _ _ _ _
    exact ev_r_ireturn (pc := 18) (x := x199) (v := Int32.ofInt x199) (ty := .int) hx199 (by decide +kernel) (by decide +kernel) rfl rfl
/-- MendBenchModel.isJust(II)Z -/
def jm_281 (Q : Nat) (a0 : Int) (a1 : Int) (S : ev_St) : Option ((Int) × ev_St) := ev_if ((0 : Int) ≤ a1 ∧ a1 < (ev_aln 658 : Int)) (ev_b (S.1 658 (Int.toNat a1)) fun x1 => if x1 = 0 then (some (0, S)) else (ev_if ((0 : Int) ≤ a0 ∧ a0 < (ev_aln 630 : Int)) (ev_b (S.1 630 (Int.toNat a0)) fun x3 => if x3 = (-1) then (some (1, S)) else (ev_if ((0 : Int) ≤ a0 ∧ a0 < (ev_aln 632 : Int)) (ev_b (S.1 632 (Int.toNat a0)) fun x5 => if x5 = 0 then (some (0, S)) else (ev_if ((0 : Int) ≤ a0 ∧ a0 < (ev_aln 631 : Int)) (ev_b (S.1 631 (Int.toNat a0)) fun x7 => if x7 < 2 then (some (1, S)) else (ev_if ((0 : Int) ≤ a0 ∧ a0 < (ev_aln 640 : Int)) (ev_b (S.1 640 (Int.toNat a0)) fun x9 => if x9 ≠ 0 then (some (0, S)) else (some (1, S)))))))))))
theorem jt_281 (d : Nat) (hd : 1 ≤ d) (Q : Nat) (a0 : Int) (a1 : Int) (ha0 : ev_rng a0) (ha1 : ev_rng a1) (S : ev_St) (x : Int) (S' : ev_St) (hJ : jm_281 Q a0 a1 S = some (x, S')) : ev_Ref d 281 [.ref 621, .int (Int32.ofInt a0), .int (Int32.ofInt a1)] S (ev_eI x) S' (ev_bl x) := by
  obtain ⟨d, rfl⟩ : ∃ e, d = e + 1 := ⟨d - 1, by omega⟩
  refine ev_ref_of (P := ev_bl) (lv := [(0, .ref 621), (1, .int (Int32.ofInt a0)), (2, .int (Int32.ofInt a1))]) (by decide +kernel) (by (try simp only [ev_sum, ev_nv_cat]); first | done | rfl) (by (try simp only [lv_args, ev_nv_cat]); first | done | rfl) ?_ x S' hJ
  unfold jm_281
  refine ev_r_aload_n (pc := 0) (k := 0) (v := .ref 621) trivial (by decide +kernel) (by rfl) ?_
  refine ev_r_getC (pc := 1) (y := 120) (ci := 13) (f := 50) (fin := 1) (k' := 658) (by decide +kernel) (by decide +kernel) (by exact ev_ob_621) rfl rfl ?_
  refine ev_r_iload_n (pc := 4) (k := 2) (v := Int32.ofInt a1) (by decide +kernel) (by rfl) ?_
  refine ev_r_bald (pc := 5) (ty := .boolean) (Or.inr rfl) ha1 (by decide +kernel) (by exact ev_ab_658) ?_
  intro x1 hx1
  refine ev_r_if (pc := 6) (q := .eq) (o := 45) (t := 51) (c := x1 = 0) (by decide +kernel) (ev_k_eq hx1 ev_rng0) (by decide +kernel) ?_ ?_
  · intro c2
    refine ev_r_iconst (pc := 51) (k := 0) (by decide +kernel) ?_
    exact ev_r_ireturn (pc := 52) (x := 0) (v := Int32.ofInt 0) (ty := .boolean) (by decide : ev_bl 0) (by decide +kernel) (by decide +kernel) (ev_ret_bl (by decide : ev_bl 0)) rfl
  · intro c2
    refine ev_r_aload_n (pc := 9) (k := 0) (v := .ref 621) trivial (by decide +kernel) (by rfl) ?_
    refine ev_r_getC (pc := 10) (y := 34) (ci := 13) (f := 11) (fin := 1) (k' := 630) (by decide +kernel) (by decide +kernel) (by exact ev_ob_621) rfl rfl ?_
    refine ev_r_iload_n (pc := 13) (k := 1) (v := Int32.ofInt a0) (by decide +kernel) (by rfl) ?_
    refine ev_r_iald (pc := 14) ha0 (by decide +kernel) (by exact ev_ab_630) ?_
    intro x3 hx3
    refine ev_r_iconst (pc := 15) (k := -1) (by decide +kernel) ?_
    refine ev_r_icmp (pc := 16) (q := .eq) (o := 31) (t := 47) (c := x3 = (-1)) (by decide +kernel) (ev_k_eq hx3 (by decide)) (by decide +kernel) ?_ ?_
    · intro c4
      refine ev_r_iconst (pc := 47) (k := 1) (by decide +kernel) ?_
      refine ev_r_goto (pc := 48) (o := 4) (t := 52) (by decide +kernel) (by decide +kernel) ?_
      exact ev_r_ireturn (pc := 52) (x := 1) (v := Int32.ofInt 1) (ty := .boolean) (by decide : ev_bl 1) (by decide +kernel) (by decide +kernel) (ev_ret_bl (by decide : ev_bl 1)) rfl
    · intro c4
      refine ev_r_aload_n (pc := 19) (k := 0) (v := .ref 621) trivial (by decide +kernel) (by rfl) ?_
      refine ev_r_getC (pc := 20) (y := 40) (ci := 13) (f := 13) (fin := 1) (k' := 632) (by decide +kernel) (by decide +kernel) (by exact ev_ob_621) rfl rfl ?_
      refine ev_r_iload_n (pc := 23) (k := 1) (v := Int32.ofInt a0) (by decide +kernel) (by rfl) ?_
      refine ev_r_iald (pc := 24) ha0 (by decide +kernel) (by exact ev_ab_632) ?_
      intro x5 hx5
      refine ev_r_if (pc := 25) (q := .eq) (o := 26) (t := 51) (c := x5 = 0) (by decide +kernel) (ev_k_eq hx5 ev_rng0) (by decide +kernel) ?_ ?_
      · intro c6
        refine ev_r_iconst (pc := 51) (k := 0) (by decide +kernel) ?_
        exact ev_r_ireturn (pc := 52) (x := 0) (v := Int32.ofInt 0) (ty := .boolean) (by decide : ev_bl 0) (by decide +kernel) (by decide +kernel) (ev_ret_bl (by decide : ev_bl 0)) rfl
      · intro c6
        refine ev_r_aload_n (pc := 28) (k := 0) (v := .ref 621) trivial (by decide +kernel) (by rfl) ?_
        refine ev_r_getC (pc := 29) (y := 37) (ci := 13) (f := 12) (fin := 1) (k' := 631) (by decide +kernel) (by decide +kernel) (by exact ev_ob_621) rfl rfl ?_
        refine ev_r_iload_n (pc := 32) (k := 1) (v := Int32.ofInt a0) (by decide +kernel) (by rfl) ?_
        refine ev_r_iald (pc := 33) ha0 (by decide +kernel) (by exact ev_ab_631) ?_
        intro x7 hx7
        refine ev_r_iconst (pc := 34) (k := 2) (by decide +kernel) ?_
        refine ev_r_icmp (pc := 35) (q := .lt) (o := 12) (t := 47) (c := x7 < 2) (by decide +kernel) (ev_k_lt hx7 (by decide)) (by decide +kernel) ?_ ?_
        · intro c8
          refine ev_r_iconst (pc := 47) (k := 1) (by decide +kernel) ?_
          refine ev_r_goto (pc := 48) (o := 4) (t := 52) (by decide +kernel) (by decide +kernel) ?_
          exact ev_r_ireturn (pc := 52) (x := 1) (v := Int32.ofInt 1) (ty := .boolean) (by decide : ev_bl 1) (by decide +kernel) (by decide +kernel) (ev_ret_bl (by decide : ev_bl 1)) rfl
        · intro c8
          refine ev_r_aload_n (pc := 38) (k := 0) (v := .ref 621) trivial (by decide +kernel) (by rfl) ?_
          refine ev_r_getC (pc := 39) (y := 65) (ci := 13) (f := 21) (fin := 1) (k' := 640) (by decide +kernel) (by decide +kernel) (by exact ev_ob_621) rfl rfl ?_
          refine ev_r_iload_n (pc := 42) (k := 1) (v := Int32.ofInt a0) (by decide +kernel) (by rfl) ?_
          refine ev_r_iald (pc := 43) ha0 (by decide +kernel) (by exact ev_ab_640) ?_
          intro x9 hx9
          refine ev_r_if (pc := 44) (q := .ne) (o := 7) (t := 51) (c := x9 ≠ 0) (by decide +kernel) (ev_k_ne hx9 ev_rng0) (by decide +kernel) ?_ ?_
          · intro c10
            refine ev_r_iconst (pc := 51) (k := 0) (by decide +kernel) ?_
            exact ev_r_ireturn (pc := 52) (x := 0) (v := Int32.ofInt 0) (ty := .boolean) (by decide : ev_bl 0) (by decide +kernel) (by decide +kernel) (ev_ret_bl (by decide : ev_bl 0)) rfl
          · intro c10
            refine ev_r_iconst (pc := 47) (k := 1) (by decide +kernel) ?_
            refine ev_r_goto (pc := 48) (o := 4) (t := 52) (by decide +kernel) (by decide +kernel) ?_
            exact ev_r_ireturn (pc := 52) (x := 1) (v := Int32.ofInt 1) (ty := .boolean) (by decide : ev_bl 1) (by decide +kernel) (by decide +kernel) (ev_ret_bl (by decide : ev_bl 1)) rfl
def jb_280_80 (Q : Nat) (a1 : Int) (x4 : Int) (x5 : Int) (x15 : Int) (K16 : Int → Int → ev_St → Option ((Unit) × ev_St)) (K80 : Int → Int → Int → Int → ev_St → Option ((Unit) × ev_St)) (x25 : Int) (x26 : Int) (x27 : Int) (x28 : Int) (s39 : ev_St) : Option ((Unit) × ev_St) := if x28 = (-1) then (ev_jn (fun (x41 : Int) (s49 : ev_St) => ev_if ((0 : Int) ≤ x15 ∧ x15 < (ev_aln 625 : Int)) (ev_b (s49.1 625 (Int.toNat x15)) fun x50 => ev_jn (fun (x53 : Int) (x52 : Int) (r51 : Nat) (s59 : ev_St) => ev_if (ev_bl x53) (ev_if ((0 : Int) ≤ x52 ∧ x52 < (ev_aln r51 : Int)) (ev_b (ev_pI s59 r51 (Int.toNat x52) x53) fun s60 => ev_ck (x5 + (-1)) fun x62 => K16 x4 x62 s60))) fun K263 => if x50 ≠ 18 then (K263 x25 x5 658 s49) else (K263 x41 x5 658 s49))) fun K236 => ev_jn (fun  (s71 : ev_St) => K236 1 s71) fun K231 => ev_jn (fun  (s81 : ev_St) => ev_jn (fun  (s89 : ev_St) => K236 0 s89) fun K235 => if x26 ≠ 1 then (K235  s81) else (ev_b (ev_iand x27 1) fun x91 => if x91 ≠ 1 then (K235  s81) else (K231  s81))) fun K217 => if x26 ≠ 0 then (K217  s39) else (if 0 < x27 then (K231  s39) else (K217  s39))) else (ev_ck (x4 + x28) fun x95 => ev_bd (jm_281 Q x95 x28 s39) fun x97 s96 => ev_jn (fun (x98 : Int) (x99 : Int) (s110 : ev_St) => ev_ck (x4 + x28) fun x111 => ev_if ((0 : Int) ≤ x111 ∧ x111 < (ev_aln 641 : Int)) (ev_b (s110.1 641 (Int.toNat x111)) fun x112 => ev_jn (fun (x113 : Int) (x115 : Int) (x114 : Int) (s126 : ev_St) => ev_ck (x114 + x115) fun x127 => ev_jn (fun (x128 : Int) (x130 : Int) (x129 : Int) (s140 : ev_St) => ev_b (ev_ior x129 x130) fun x141 => ev_ck (x4 + x28) fun x142 => ev_if ((0 : Int) ≤ x142 ∧ x142 < (ev_aln 627 : Int)) (ev_b (s140.1 627 (Int.toNat x142)) fun x143 => K80 x113 x128 x141 x143 s140)) fun K190 => if x98 = 0 then (K190 x127 0 x27 s126) else (ev_ck (x4 + x28) fun x145 => ev_if ((0 : Int) ≤ x145 ∧ x145 < (ev_aln 641 : Int)) (ev_b (s126.1 641 (Int.toNat x145)) fun x146 => if x146 ≤ 0 then (K190 x127 2 x27 s126) else (K190 x127 1 x27 s126)))) fun K159 => if x112 ≤ 0 then (K159 x99 0 x26 s110) else (K159 x99 1 x26 s110))) fun K138 => ev_jn (fun (x149 : Int) (s160 : ev_St) => K138 x149 1 s160) fun K133 => if x25 ≠ 0 then (K133 x97 s96) else (ev_if ((0 : Int) ≤ x15 ∧ x15 < (ev_aln 625 : Int)) (ev_b (s96.1 625 (Int.toNat x15)) fun x162 => ev_bd (jm_267 Q x162 s96) fun x164 s163 => ev_jn (fun  (s175 : ev_St) => K138 x97 0 s175) fun K137 => ev_jn (fun  (s186 : ev_St) => if x97 = 0 then (K137  s186) else (K133 x97 s186)) fun K128 => if x164 ≠ 0 then (K128  s163) else (ev_if ((0 : Int) ≤ x15 ∧ x15 < (ev_aln 625 : Int)) (ev_b (s163.1 625 (Int.toNat x15)) fun x189 => if x189 ≠ 13 then (K137  s163) else (K128  s163))))))
def jl_280_80 (Q : Nat) (a1 : Int) (x4 : Int) (x5 : Int) (x15 : Int) (K16 : Int → Int → ev_St → Option ((Unit) × ev_St)) : Nat → Int → Int → Int → Int → ev_St → Option ((Unit) × ev_St)
  | 0 => fun _ _ _ _ _ => none
  | q + 1 => jb_280_80 Q a1 x4 x5 x15 K16 (jl_280_80 Q a1 x4 x5 x15 K16 q)
theorem jbt_280_80 (d : Nat) (hd : 3 ≤ d + 1) (Q : Nat) (a1 : Int) (x4 : Int) (x5 : Int) (x15 : Int) (ha1 : ev_rng a1) (hx4 : ev_rng x4) (hx5 : ev_rng x5) (hx15 : ev_rng x15) (K16 : Int → Int → ev_St → Option ((Unit) × ev_St)) (hK16 : ∀ (x4 : Int) (hx4 : ev_rng x4), ∀ (x5 : Int) (hx5 : ev_rng x5), ∀ (s11 : ev_St) (w6 : List (Nat × Value)), ev_lk w6 0 = some (.ref 621) → ev_lk w6 2 = some (.int (Int32.ofInt a1)) → ev_lk w6 3 = some (.int (Int32.ofInt x4)) → ev_lk w6 4 = some (.int (Int32.ofInt x5)) → ev_w none (ev_Mof 280) d 16 w6 [] s11 (K16 x4 x5 s11) ev_eU ev_PU) (K80 : Int → Int → Int → Int → ev_St → Option ((Unit) × ev_St)) (hK80 : ∀ (x25 : Int) (hx25 : ev_rng x25), ∀ (x26 : Int) (hx26 : ev_rng x26), ∀ (x27 : Int) (hx27 : ev_rng x27), ∀ (x28 : Int) (hx28 : ev_rng x28), ∀ (s39 : ev_St) (w29 : List (Nat × Value)), ev_lk w29 0 = some (.ref 621) → ev_lk w29 2 = some (.int (Int32.ofInt a1)) → ev_lk w29 3 = some (.int (Int32.ofInt x4)) → ev_lk w29 4 = some (.int (Int32.ofInt x5)) → ev_lk w29 5 = some (.int (Int32.ofInt x15)) → ev_lk w29 6 = some (.int (Int32.ofInt x25)) → ev_lk w29 7 = some (.int (Int32.ofInt x26)) → ev_lk w29 8 = some (.int (Int32.ofInt x27)) → ev_lk w29 9 = some (.int (Int32.ofInt x28)) → ev_w none (ev_Mof 280) d 80 w29 [] s39 (K80 x25 x26 x27 x28 s39) ev_eU ev_PU) : ∀ (x25 : Int) (hx25 : ev_rng x25), ∀ (x26 : Int) (hx26 : ev_rng x26), ∀ (x27 : Int) (hx27 : ev_rng x27), ∀ (x28 : Int) (hx28 : ev_rng x28), ∀ (s39 : ev_St) (w29 : List (Nat × Value)), ev_lk w29 0 = some (.ref 621) → ev_lk w29 2 = some (.int (Int32.ofInt a1)) → ev_lk w29 3 = some (.int (Int32.ofInt x4)) → ev_lk w29 4 = some (.int (Int32.ofInt x5)) → ev_lk w29 5 = some (.int (Int32.ofInt x15)) → ev_lk w29 6 = some (.int (Int32.ofInt x25)) → ev_lk w29 7 = some (.int (Int32.ofInt x26)) → ev_lk w29 8 = some (.int (Int32.ofInt x27)) → ev_lk w29 9 = some (.int (Int32.ofInt x28)) → ev_w none (ev_Mof 280) d 80 w29 [] s39 (jb_280_80 Q a1 x4 x5 x15 K16 K80 x25 x26 x27 x28 s39) ev_eU ev_PU := by
  intro x25 hx25 x26 hx26 x27 hx27 x28 hx28 s39 w29 e30 e31 e32 e33 e34 e35 e36 e37 e38
  unfold jb_280_80
  refine ev_r_iload (pc := 80) (k := 9) (v := Int32.ofInt x28) (by decide +kernel) (by exact e38) ?_
  refine ev_r_iconst (pc := 82) (k := -1) (by decide +kernel) ?_
  refine ev_r_icmp (pc := 83) (q := .eq) (o := 124) (t := 207) (c := x28 = (-1)) (by decide +kernel) (ev_k_eq hx28 (by decide)) (by decide +kernel) ?_ ?_
  · intro c40
    refine ev_r_iload (pc := 207) (k := 7) (v := Int32.ofInt x26) (by decide +kernel) (by exact e36) ?_
    refine ev_r_jn (Q := fun K => ∀ (x41 : Int) (hx41 : ev_rng x41), ∀ (s49 : ev_St) (w42 : List (Nat × Value)), ev_lk w42 0 = some (.ref 621) → ev_lk w42 2 = some (.int (Int32.ofInt a1)) → ev_lk w42 3 = some (.int (Int32.ofInt x4)) → ev_lk w42 4 = some (.int (Int32.ofInt x5)) → ev_lk w42 5 = some (.int (Int32.ofInt x15)) → ev_lk w42 6 = some (.int (Int32.ofInt x25)) → ev_w none (ev_Mof 280) d 236 w42 [.int (Int32.ofInt x41)] s49 (K x41 s49) ev_eU ev_PU) ?_ ?_
    · intro x41 hx41 s49 w42 e43 e44 e45 e46 e47 e48
      refine ev_r_istore (pc := 236) (k := 9) (by decide +kernel) (by decide +kernel) rfl ?_
      refine ev_r_aload_n (pc := 238) (k := 0) (v := .ref 621) trivial (by decide +kernel) (by exact (ev_l1 e43 (by decide) (by decide))) ?_
      refine ev_r_getC (pc := 239) (y := 120) (ci := 13) (f := 50) (fin := 1) (k' := 658) (by decide +kernel) (by decide +kernel) (by exact ev_ob_621) rfl rfl ?_
      refine ev_r_iload (pc := 242) (k := 4) (v := Int32.ofInt x5) (by decide +kernel) (by exact (ev_l1 e46 (by decide) (by decide))) ?_
      refine ev_r_aload_n (pc := 244) (k := 0) (v := .ref 621) trivial (by decide +kernel) (by exact (ev_l1 e43 (by decide) (by decide))) ?_
      refine ev_r_getC (pc := 245) (y := 19) (ci := 13) (f := 6) (fin := 1) (k' := 625) (by decide +kernel) (by decide +kernel) (by exact ev_ob_621) rfl rfl ?_
      refine ev_r_iload (pc := 248) (k := 5) (v := Int32.ofInt x15) (by decide +kernel) (by exact (ev_l1 e47 (by decide) (by decide))) ?_
      refine ev_r_iald (pc := 250) hx15 (by decide +kernel) (by exact ev_ab_625) ?_
      intro x50 hx50
      refine ev_r_bipush (pc := 251) (k := 18) (by decide +kernel) (by decide +kernel) ?_
      refine ev_r_jn (Q := fun K => ∀ (x53 : Int) (hx53 : ev_rng x53), ∀ (x52 : Int) (hx52 : ev_rng x52), ∀ (r51 : Nat) (hr51 : ev_isAb r51 1 .boolean = true), ∀ (s59 : ev_St) (w54 : List (Nat × Value)), ev_lk w54 0 = some (.ref 621) → ev_lk w54 2 = some (.int (Int32.ofInt a1)) → ev_lk w54 3 = some (.int (Int32.ofInt x4)) → ev_lk w54 4 = some (.int (Int32.ofInt x5)) → ev_w none (ev_Mof 280) d 263 w54 [.int (Int32.ofInt x53), .int (Int32.ofInt x52), .ref r51] s59 (K x53 x52 r51 s59) ev_eU ev_PU) ?_ ?_
      · intro x53 hx53 x52 hx52 r51 hr51 s59 w54 e55 e56 e57 e58
        refine ev_r_chk ?_
        intro c61
        refine ev_r_bast (pc := 263) (ty := .boolean) (Or.inr rfl) (ev_nar_bl c61) hx53 hx52 (by decide +kernel) (by exact hr51) ?_
        intro s60
        refine ev_r_iinc (pc := 264) (k := 4) (c := -1) (x := x5) (by decide +kernel) (by decide +kernel) (by exact e58) (fun _ => rfl) ?_
        intro x62 hx62
        refine ev_r_goto (pc := 267) (o := (-251)) (t := 16) (by decide +kernel) (by decide +kernel) ?_
        exact hK16 x4 hx4 x62 hx62 s60 _ (by exact (ev_l1 e55 (by decide) (by decide))) (by exact (ev_l1 e56 (by decide) (by decide))) (by exact (ev_lk_st1 e57 (by decide) rfl)) (by exact ev_lk_st1_self)
      · intro K263 hK263
        refine ev_r_icmp (pc := 253) (q := .ne) (o := 8) (t := 261) (c := x50 ≠ 18) (by decide +kernel) (ev_k_ne hx50 (by decide)) (by decide +kernel) ?_ ?_
        · intro c63
          refine ev_r_iload (pc := 261) (k := 6) (v := Int32.ofInt x25) (by decide +kernel) (by exact (ev_l1 e48 (by decide) (by decide))) ?_
          exact hK263 x25 hx25 x5 hx5 658 ev_ab_658 s49 _ (by exact (ev_l1 e43 (by decide) (by decide))) (by exact (ev_l1 e44 (by decide) (by decide))) (by exact (ev_l1 e45 (by decide) (by decide))) (by exact (ev_l1 e46 (by decide) (by decide)))
        · intro c63
          refine ev_r_iload (pc := 256) (k := 9) (v := Int32.ofInt x41) (by decide +kernel) (by exact ev_lk_st1_self) ?_
          refine ev_r_goto (pc := 258) (o := 5) (t := 263) (by decide +kernel) (by decide +kernel) ?_
          exact hK263 x41 hx41 x5 hx5 658 ev_ab_658 s49 _ (by exact (ev_l1 e43 (by decide) (by decide))) (by exact (ev_l1 e44 (by decide) (by decide))) (by exact (ev_l1 e45 (by decide) (by decide))) (by exact (ev_l1 e46 (by decide) (by decide)))
    · intro K236 hK236
      refine ev_r_jn (Q := fun K => ∀ (s71 : ev_St) (w64 : List (Nat × Value)), ev_lk w64 0 = some (.ref 621) → ev_lk w64 2 = some (.int (Int32.ofInt a1)) → ev_lk w64 3 = some (.int (Int32.ofInt x4)) → ev_lk w64 4 = some (.int (Int32.ofInt x5)) → ev_lk w64 5 = some (.int (Int32.ofInt x15)) → ev_lk w64 6 = some (.int (Int32.ofInt x25)) → ev_w none (ev_Mof 280) d 231 w64 [] s71 (K  s71) ev_eU ev_PU) ?_ ?_
      · intro  s71 w64 e65 e66 e67 e68 e69 e70
        refine ev_r_iconst (pc := 231) (k := 1) (by decide +kernel) ?_
        refine ev_r_goto (pc := 232) (o := 4) (t := 236) (by decide +kernel) (by decide +kernel) ?_
        exact hK236 1 (by decide) s71 _ (by exact e65) (by exact e66) (by exact e67) (by exact e68) (by exact e69) (by exact e70)
      · intro K231 hK231
        refine ev_r_jn (Q := fun K => ∀ (s81 : ev_St) (w72 : List (Nat × Value)), ev_lk w72 0 = some (.ref 621) → ev_lk w72 2 = some (.int (Int32.ofInt a1)) → ev_lk w72 3 = some (.int (Int32.ofInt x4)) → ev_lk w72 4 = some (.int (Int32.ofInt x5)) → ev_lk w72 5 = some (.int (Int32.ofInt x15)) → ev_lk w72 6 = some (.int (Int32.ofInt x25)) → ev_lk w72 7 = some (.int (Int32.ofInt x26)) → ev_lk w72 8 = some (.int (Int32.ofInt x27)) → ev_w none (ev_Mof 280) d 217 w72 [] s81 (K  s81) ev_eU ev_PU) ?_ ?_
        · intro  s81 w72 e73 e74 e75 e76 e77 e78 e79 e80
          refine ev_r_iload (pc := 217) (k := 7) (v := Int32.ofInt x26) (by decide +kernel) (by exact e79) ?_
          refine ev_r_iconst (pc := 219) (k := 1) (by decide +kernel) ?_
          refine ev_r_jn (Q := fun K => ∀ (s89 : ev_St) (w82 : List (Nat × Value)), ev_lk w82 0 = some (.ref 621) → ev_lk w82 2 = some (.int (Int32.ofInt a1)) → ev_lk w82 3 = some (.int (Int32.ofInt x4)) → ev_lk w82 4 = some (.int (Int32.ofInt x5)) → ev_lk w82 5 = some (.int (Int32.ofInt x15)) → ev_lk w82 6 = some (.int (Int32.ofInt x25)) → ev_w none (ev_Mof 280) d 235 w82 [] s89 (K  s89) ev_eU ev_PU) ?_ ?_
          · intro  s89 w82 e83 e84 e85 e86 e87 e88
            refine ev_r_iconst (pc := 235) (k := 0) (by decide +kernel) ?_
            exact hK236 0 (by decide) s89 _ (by exact e83) (by exact e84) (by exact e85) (by exact e86) (by exact e87) (by exact e88)
          · intro K235 hK235
            refine ev_r_icmp (pc := 220) (q := .ne) (o := 15) (t := 235) (c := x26 ≠ 1) (by decide +kernel) (ev_k_ne hx26 (by decide)) (by decide +kernel) ?_ ?_
            · intro c90
              exact hK235  s81 _ (by exact e73) (by exact e74) (by exact e75) (by exact e76) (by exact e77) (by exact e78)
            · intro c90
              refine ev_r_iload (pc := 223) (k := 8) (v := Int32.ofInt x27) (by decide +kernel) (by exact e80) ?_
              refine ev_r_iconst (pc := 225) (k := 1) (by decide +kernel) ?_
              refine ev_r_iand (pc := 226) (by decide +kernel) ?_
              intro x91 hx91
              refine ev_r_iconst (pc := 227) (k := 1) (by decide +kernel) ?_
              refine ev_r_icmp (pc := 228) (q := .ne) (o := 7) (t := 235) (c := x91 ≠ 1) (by decide +kernel) (ev_k_ne hx91 (by decide)) (by decide +kernel) ?_ ?_
              · intro c92
                exact hK235  s81 _ (by exact e73) (by exact e74) (by exact e75) (by exact e76) (by exact e77) (by exact e78)
              · intro c92
                exact hK231  s81 _ (by exact e73) (by exact e74) (by exact e75) (by exact e76) (by exact e77) (by exact e78)
        · intro K217 hK217
          refine ev_r_if (pc := 209) (q := .ne) (o := 8) (t := 217) (c := x26 ≠ 0) (by decide +kernel) (ev_k_ne hx26 ev_rng0) (by decide +kernel) ?_ ?_
          · intro c93
            exact hK217  s39 _ (by exact e30) (by exact e31) (by exact e32) (by exact e33) (by exact e34) (by exact e35) (by exact e36) (by exact e37)
          · intro c93
            refine ev_r_iload (pc := 212) (k := 8) (v := Int32.ofInt x27) (by decide +kernel) (by exact e37) ?_
            refine ev_r_if (pc := 214) (q := .gt) (o := 17) (t := 231) (c := 0 < x27) (by decide +kernel) (ev_k_gt hx27 ev_rng0) (by decide +kernel) ?_ ?_
            · intro c94
              exact hK231  s39 _ (by exact e30) (by exact e31) (by exact e32) (by exact e33) (by exact e34) (by exact e35)
            · intro c94
              exact hK217  s39 _ (by exact e30) (by exact e31) (by exact e32) (by exact e33) (by exact e34) (by exact e35) (by exact e36) (by exact e37)
  · intro c40
    refine ev_r_aload_n (pc := 86) (k := 0) (v := .ref 621) trivial (by decide +kernel) (by exact e30) ?_
    refine ev_r_iload_n (pc := 87) (k := 3) (v := Int32.ofInt x4) (by decide +kernel) (by exact e32) ?_
    refine ev_r_iload (pc := 88) (k := 9) (v := Int32.ofInt x28) (by decide +kernel) (by exact e38) ?_
    refine ev_r_iadd (pc := 90) (by decide +kernel) ?_
    intro x95 hx95
    refine ev_r_iload (pc := 91) (k := 9) (v := Int32.ofInt x28) (by decide +kernel) (by exact e38) ?_
    refine ev_r_virt (pc := 93) (y := 545) (mi := 281) (na := 2) (k := 621) (as := [.int (Int32.ofInt x95), .int (Int32.ofInt x28)]) (rest := []) (encc := ev_oI) (Q := ev_bl) (fun x S1 h => jt_281 d (by omega) Q x95 x28 hx95 hx28 s39 x S1 h) (by exact ev_ob_621) (by decide +kernel) (by decide +kernel) (by decide +kernel) (by decide +kernel) rfl (by (try simp only [ev_sum, ev_nv_cat]); first | done | rfl) ?_
    intro x97 s96 hx97
    replace hx97 := ev_bl_rng hx97
    show ev_w _ _ _ _ _ [.int (Int32.ofInt x97)] _ _ _ _
    refine ev_r_istore (pc := 96) (k := 10) (by decide +kernel) (by decide +kernel) rfl ?_
    refine ev_r_iload (pc := 98) (k := 6) (v := Int32.ofInt x25) (by decide +kernel) (by exact (ev_l1 e35 (by decide) (by decide))) ?_
    refine ev_r_jn (Q := fun K => ∀ (x98 : Int) (hx98 : ev_rng x98), ∀ (x99 : Int) (hx99 : ev_rng x99), ∀ (s110 : ev_St) (w100 : List (Nat × Value)), ev_lk w100 0 = some (.ref 621) → ev_lk w100 2 = some (.int (Int32.ofInt a1)) → ev_lk w100 3 = some (.int (Int32.ofInt x4)) → ev_lk w100 4 = some (.int (Int32.ofInt x5)) → ev_lk w100 5 = some (.int (Int32.ofInt x15)) → ev_lk w100 7 = some (.int (Int32.ofInt x26)) → ev_lk w100 8 = some (.int (Int32.ofInt x27)) → ev_lk w100 9 = some (.int (Int32.ofInt x28)) → ev_lk w100 10 = some (.int (Int32.ofInt x98)) → ev_w none (ev_Mof 280) d 138 w100 [.int (Int32.ofInt x99)] s110 (K x98 x99 s110) ev_eU ev_PU) ?_ ?_
    · intro x98 hx98 x99 hx99 s110 w100 e101 e102 e103 e104 e105 e106 e107 e108 e109
      refine ev_r_istore (pc := 138) (k := 6) (by decide +kernel) (by decide +kernel) rfl ?_
      refine ev_r_iload (pc := 140) (k := 7) (v := Int32.ofInt x26) (by decide +kernel) (by exact (ev_l1 e106 (by decide) (by decide))) ?_
      refine ev_r_aload_n (pc := 142) (k := 0) (v := .ref 621) trivial (by decide +kernel) (by exact (ev_l1 e101 (by decide) (by decide))) ?_
      refine ev_r_getC (pc := 143) (y := 68) (ci := 13) (f := 22) (fin := 1) (k' := 641) (by decide +kernel) (by decide +kernel) (by exact ev_ob_621) rfl rfl ?_
      refine ev_r_iload_n (pc := 146) (k := 3) (v := Int32.ofInt x4) (by decide +kernel) (by exact (ev_l1 e103 (by decide) (by decide))) ?_
      refine ev_r_iload (pc := 147) (k := 9) (v := Int32.ofInt x28) (by decide +kernel) (by exact (ev_l1 e108 (by decide) (by decide))) ?_
      refine ev_r_iadd (pc := 149) (by decide +kernel) ?_
      intro x111 hx111
      refine ev_r_iald (pc := 150) hx111 (by decide +kernel) (by exact ev_ab_641) ?_
      intro x112 hx112
      refine ev_r_jn (Q := fun K => ∀ (x113 : Int) (hx113 : ev_rng x113), ∀ (x115 : Int) (hx115 : ev_rng x115), ∀ (x114 : Int) (hx114 : ev_rng x114), ∀ (s126 : ev_St) (w116 : List (Nat × Value)), ev_lk w116 0 = some (.ref 621) → ev_lk w116 2 = some (.int (Int32.ofInt a1)) → ev_lk w116 3 = some (.int (Int32.ofInt x4)) → ev_lk w116 4 = some (.int (Int32.ofInt x5)) → ev_lk w116 5 = some (.int (Int32.ofInt x15)) → ev_lk w116 6 = some (.int (Int32.ofInt x113)) → ev_lk w116 8 = some (.int (Int32.ofInt x27)) → ev_lk w116 9 = some (.int (Int32.ofInt x28)) → ev_lk w116 10 = some (.int (Int32.ofInt x98)) → ev_w none (ev_Mof 280) d 159 w116 [.int (Int32.ofInt x115), .int (Int32.ofInt x114)] s126 (K x113 x115 x114 s126) ev_eU ev_PU) ?_ ?_
      · intro x113 hx113 x115 hx115 x114 hx114 s126 w116 e117 e118 e119 e120 e121 e122 e123 e124 e125
        refine ev_r_iadd (pc := 159) (by decide +kernel) ?_
        intro x127 hx127
        refine ev_r_istore (pc := 160) (k := 7) (by decide +kernel) (by decide +kernel) rfl ?_
        refine ev_r_iload (pc := 162) (k := 8) (v := Int32.ofInt x27) (by decide +kernel) (by exact (ev_l1 e123 (by decide) (by decide))) ?_
        refine ev_r_iload (pc := 164) (k := 10) (v := Int32.ofInt x98) (by decide +kernel) (by exact (ev_l1 e125 (by decide) (by decide))) ?_
        refine ev_r_jn (Q := fun K => ∀ (x128 : Int) (hx128 : ev_rng x128), ∀ (x130 : Int) (hx130 : ev_rng x130), ∀ (x129 : Int) (hx129 : ev_rng x129), ∀ (s140 : ev_St) (w131 : List (Nat × Value)), ev_lk w131 0 = some (.ref 621) → ev_lk w131 2 = some (.int (Int32.ofInt a1)) → ev_lk w131 3 = some (.int (Int32.ofInt x4)) → ev_lk w131 4 = some (.int (Int32.ofInt x5)) → ev_lk w131 5 = some (.int (Int32.ofInt x15)) → ev_lk w131 6 = some (.int (Int32.ofInt x113)) → ev_lk w131 7 = some (.int (Int32.ofInt x128)) → ev_lk w131 9 = some (.int (Int32.ofInt x28)) → ev_w none (ev_Mof 280) d 190 w131 [.int (Int32.ofInt x130), .int (Int32.ofInt x129)] s140 (K x128 x130 x129 s140) ev_eU ev_PU) ?_ ?_
        · intro x128 hx128 x130 hx130 x129 hx129 s140 w131 e132 e133 e134 e135 e136 e137 e138 e139
          refine ev_r_ior (pc := 190) (by decide +kernel) ?_
          intro x141 hx141
          refine ev_r_istore (pc := 191) (k := 8) (by decide +kernel) (by decide +kernel) rfl ?_
          refine ev_r_aload_n (pc := 193) (k := 0) (v := .ref 621) trivial (by decide +kernel) (by exact (ev_l1 e132 (by decide) (by decide))) ?_
          refine ev_r_getC (pc := 194) (y := 25) (ci := 13) (f := 8) (fin := 1) (k' := 627) (by decide +kernel) (by decide +kernel) (by exact ev_ob_621) rfl rfl ?_
          refine ev_r_iload_n (pc := 197) (k := 3) (v := Int32.ofInt x4) (by decide +kernel) (by exact (ev_l1 e134 (by decide) (by decide))) ?_
          refine ev_r_iload (pc := 198) (k := 9) (v := Int32.ofInt x28) (by decide +kernel) (by exact (ev_l1 e139 (by decide) (by decide))) ?_
          refine ev_r_iadd (pc := 200) (by decide +kernel) ?_
          intro x142 hx142
          refine ev_r_iald (pc := 201) hx142 (by decide +kernel) (by exact ev_ab_627) ?_
          intro x143 hx143
          refine ev_r_istore (pc := 202) (k := 9) (by decide +kernel) (by decide +kernel) rfl ?_
          refine ev_r_goto (pc := 204) (o := (-124)) (t := 80) (by decide +kernel) (by decide +kernel) ?_
          exact hK80 x113 hx113 x128 hx128 x141 hx141 x143 hx143 s140 _ (by exact (ev_l1 (ev_l1 e132 (by decide) (by decide)) (by decide) (by decide))) (by exact (ev_l1 (ev_l1 e133 (by decide) (by decide)) (by decide) (by decide))) (by exact (ev_l1 (ev_l1 e134 (by decide) (by decide)) (by decide) (by decide))) (by exact (ev_l1 (ev_l1 e135 (by decide) (by decide)) (by decide) (by decide))) (by exact (ev_l1 (ev_l1 e136 (by decide) (by decide)) (by decide) (by decide))) (by exact (ev_l1 (ev_l1 e137 (by decide) (by decide)) (by decide) (by decide))) (by exact (ev_l1 (ev_lk_st1 e138 (by decide) rfl) (by decide) (by decide))) (by exact (ev_lk_st1 ev_lk_st1_self (by decide) rfl)) (by exact ev_lk_st1_self)
        · intro K190 hK190
          refine ev_r_if (pc := 166) (q := .eq) (o := 23) (t := 189) (c := x98 = 0) (by decide +kernel) (ev_k_eq hx98 ev_rng0) (by decide +kernel) ?_ ?_
          · intro c144
            refine ev_r_iconst (pc := 189) (k := 0) (by decide +kernel) ?_
            exact hK190 x127 hx127 0 (by decide) x27 hx27 s126 _ (by exact (ev_l1 e117 (by decide) (by decide))) (by exact (ev_l1 e118 (by decide) (by decide))) (by exact (ev_l1 e119 (by decide) (by decide))) (by exact (ev_l1 e120 (by decide) (by decide))) (by exact (ev_l1 e121 (by decide) (by decide))) (by exact (ev_lk_st1 e122 (by decide) rfl)) (by exact ev_lk_st1_self) (by exact (ev_l1 e124 (by decide) (by decide)))
          · intro c144
            refine ev_r_aload_n (pc := 169) (k := 0) (v := .ref 621) trivial (by decide +kernel) (by exact (ev_l1 e117 (by decide) (by decide))) ?_
            refine ev_r_getC (pc := 170) (y := 68) (ci := 13) (f := 22) (fin := 1) (k' := 641) (by decide +kernel) (by decide +kernel) (by exact ev_ob_621) rfl rfl ?_
            refine ev_r_iload_n (pc := 173) (k := 3) (v := Int32.ofInt x4) (by decide +kernel) (by exact (ev_l1 e119 (by decide) (by decide))) ?_
            refine ev_r_iload (pc := 174) (k := 9) (v := Int32.ofInt x28) (by decide +kernel) (by exact (ev_l1 e124 (by decide) (by decide))) ?_
            refine ev_r_iadd (pc := 176) (by decide +kernel) ?_
            intro x145 hx145
            refine ev_r_iald (pc := 177) hx145 (by decide +kernel) (by exact ev_ab_641) ?_
            intro x146 hx146
            refine ev_r_if (pc := 178) (q := .le) (o := 7) (t := 185) (c := x146 ≤ 0) (by decide +kernel) (ev_k_le hx146 ev_rng0) (by decide +kernel) ?_ ?_
            · intro c147
              refine ev_r_iconst (pc := 185) (k := 2) (by decide +kernel) ?_
              refine ev_r_goto (pc := 186) (o := 4) (t := 190) (by decide +kernel) (by decide +kernel) ?_
              exact hK190 x127 hx127 2 (by decide) x27 hx27 s126 _ (by exact (ev_l1 e117 (by decide) (by decide))) (by exact (ev_l1 e118 (by decide) (by decide))) (by exact (ev_l1 e119 (by decide) (by decide))) (by exact (ev_l1 e120 (by decide) (by decide))) (by exact (ev_l1 e121 (by decide) (by decide))) (by exact (ev_lk_st1 e122 (by decide) rfl)) (by exact ev_lk_st1_self) (by exact (ev_l1 e124 (by decide) (by decide)))
            · intro c147
              refine ev_r_iconst (pc := 181) (k := 1) (by decide +kernel) ?_
              refine ev_r_goto (pc := 182) (o := 8) (t := 190) (by decide +kernel) (by decide +kernel) ?_
              exact hK190 x127 hx127 1 (by decide) x27 hx27 s126 _ (by exact (ev_l1 e117 (by decide) (by decide))) (by exact (ev_l1 e118 (by decide) (by decide))) (by exact (ev_l1 e119 (by decide) (by decide))) (by exact (ev_l1 e120 (by decide) (by decide))) (by exact (ev_l1 e121 (by decide) (by decide))) (by exact (ev_lk_st1 e122 (by decide) rfl)) (by exact ev_lk_st1_self) (by exact (ev_l1 e124 (by decide) (by decide)))
      · intro K159 hK159
        refine ev_r_if (pc := 151) (q := .le) (o := 7) (t := 158) (c := x112 ≤ 0) (by decide +kernel) (ev_k_le hx112 ev_rng0) (by decide +kernel) ?_ ?_
        · intro c148
          refine ev_r_iconst (pc := 158) (k := 0) (by decide +kernel) ?_
          exact hK159 x99 hx99 0 (by decide) x26 hx26 s110 _ (by exact (ev_l1 e101 (by decide) (by decide))) (by exact (ev_l1 e102 (by decide) (by decide))) (by exact (ev_l1 e103 (by decide) (by decide))) (by exact (ev_l1 e104 (by decide) (by decide))) (by exact (ev_lk_st1 e105 (by decide) rfl)) (by exact ev_lk_st1_self) (by exact (ev_l1 e107 (by decide) (by decide))) (by exact (ev_l1 e108 (by decide) (by decide))) (by exact (ev_l1 e109 (by decide) (by decide)))
        · intro c148
          refine ev_r_iconst (pc := 154) (k := 1) (by decide +kernel) ?_
          refine ev_r_goto (pc := 155) (o := 4) (t := 159) (by decide +kernel) (by decide +kernel) ?_
          exact hK159 x99 hx99 1 (by decide) x26 hx26 s110 _ (by exact (ev_l1 e101 (by decide) (by decide))) (by exact (ev_l1 e102 (by decide) (by decide))) (by exact (ev_l1 e103 (by decide) (by decide))) (by exact (ev_l1 e104 (by decide) (by decide))) (by exact (ev_lk_st1 e105 (by decide) rfl)) (by exact ev_lk_st1_self) (by exact (ev_l1 e107 (by decide) (by decide))) (by exact (ev_l1 e108 (by decide) (by decide))) (by exact (ev_l1 e109 (by decide) (by decide)))
    · intro K138 hK138
      refine ev_r_jn (Q := fun K => ∀ (x149 : Int) (hx149 : ev_rng x149), ∀ (s160 : ev_St) (w150 : List (Nat × Value)), ev_lk w150 0 = some (.ref 621) → ev_lk w150 2 = some (.int (Int32.ofInt a1)) → ev_lk w150 3 = some (.int (Int32.ofInt x4)) → ev_lk w150 4 = some (.int (Int32.ofInt x5)) → ev_lk w150 5 = some (.int (Int32.ofInt x15)) → ev_lk w150 7 = some (.int (Int32.ofInt x26)) → ev_lk w150 8 = some (.int (Int32.ofInt x27)) → ev_lk w150 9 = some (.int (Int32.ofInt x28)) → ev_lk w150 10 = some (.int (Int32.ofInt x149)) → ev_w none (ev_Mof 280) d 133 w150 [] s160 (K x149 s160) ev_eU ev_PU) ?_ ?_
      · intro x149 hx149 s160 w150 e151 e152 e153 e154 e155 e156 e157 e158 e159
        refine ev_r_iconst (pc := 133) (k := 1) (by decide +kernel) ?_
        refine ev_r_goto (pc := 134) (o := 4) (t := 138) (by decide +kernel) (by decide +kernel) ?_
        exact hK138 x149 hx149 1 (by decide) s160 _ (by exact e151) (by exact e152) (by exact e153) (by exact e154) (by exact e155) (by exact e156) (by exact e157) (by exact e158) (by exact e159)
      · intro K133 hK133
        refine ev_r_if (pc := 100) (q := .ne) (o := 33) (t := 133) (c := x25 ≠ 0) (by decide +kernel) (ev_k_ne hx25 ev_rng0) (by decide +kernel) ?_ ?_
        · intro c161
          exact hK133 x97 hx97 s96 _ (by exact (ev_l1 e30 (by decide) (by decide))) (by exact (ev_l1 e31 (by decide) (by decide))) (by exact (ev_l1 e32 (by decide) (by decide))) (by exact (ev_l1 e33 (by decide) (by decide))) (by exact (ev_l1 e34 (by decide) (by decide))) (by exact (ev_l1 e36 (by decide) (by decide))) (by exact (ev_l1 e37 (by decide) (by decide))) (by exact (ev_lk_st1 e38 (by decide) rfl)) (by exact ev_lk_st1_self)
        · intro c161
          refine ev_r_aload_n (pc := 103) (k := 0) (v := .ref 621) trivial (by decide +kernel) (by exact (ev_l1 e30 (by decide) (by decide))) ?_
          refine ev_r_getC (pc := 104) (y := 19) (ci := 13) (f := 6) (fin := 1) (k' := 625) (by decide +kernel) (by decide +kernel) (by exact ev_ob_621) rfl rfl ?_
          refine ev_r_iload (pc := 107) (k := 5) (v := Int32.ofInt x15) (by decide +kernel) (by exact (ev_l1 e34 (by decide) (by decide))) ?_
          refine ev_r_iald (pc := 109) hx15 (by decide +kernel) (by exact ev_ab_625) ?_
          intro x162 hx162
          refine ev_r_stat (pc := 110) (y := 504) (kind := 2) (mi := 267) (na := 1) (as := [.int (Int32.ofInt x162)]) (rest := []) (encc := ev_oI) (Q := ev_bl) (fun x S1 h => jt_267 d (by omega) Q x162 hx162 s96 x S1 h) (Or.inl rfl) (by decide +kernel) (by decide +kernel) (by decide +kernel) (by decide +kernel) rfl (by (try simp only [ev_sum, ev_nv_cat]); first | done | rfl) ?_
          intro x164 s163 hx164
          replace hx164 := ev_bl_rng hx164
          show ev_w _ _ _ _ _ [.int (Int32.ofInt x164)] _ _ _ _
          refine ev_r_jn (Q := fun K => ∀ (s175 : ev_St) (w165 : List (Nat × Value)), ev_lk w165 0 = some (.ref 621) → ev_lk w165 2 = some (.int (Int32.ofInt a1)) → ev_lk w165 3 = some (.int (Int32.ofInt x4)) → ev_lk w165 4 = some (.int (Int32.ofInt x5)) → ev_lk w165 5 = some (.int (Int32.ofInt x15)) → ev_lk w165 7 = some (.int (Int32.ofInt x26)) → ev_lk w165 8 = some (.int (Int32.ofInt x27)) → ev_lk w165 9 = some (.int (Int32.ofInt x28)) → ev_lk w165 10 = some (.int (Int32.ofInt x97)) → ev_w none (ev_Mof 280) d 137 w165 [] s175 (K  s175) ev_eU ev_PU) ?_ ?_
          · intro  s175 w165 e166 e167 e168 e169 e170 e171 e172 e173 e174
            refine ev_r_iconst (pc := 137) (k := 0) (by decide +kernel) ?_
            exact hK138 x97 hx97 0 (by decide) s175 _ (by exact e166) (by exact e167) (by exact e168) (by exact e169) (by exact e170) (by exact e171) (by exact e172) (by exact e173) (by exact e174)
          · intro K137 hK137
            refine ev_r_jn (Q := fun K => ∀ (s186 : ev_St) (w176 : List (Nat × Value)), ev_lk w176 0 = some (.ref 621) → ev_lk w176 2 = some (.int (Int32.ofInt a1)) → ev_lk w176 3 = some (.int (Int32.ofInt x4)) → ev_lk w176 4 = some (.int (Int32.ofInt x5)) → ev_lk w176 5 = some (.int (Int32.ofInt x15)) → ev_lk w176 7 = some (.int (Int32.ofInt x26)) → ev_lk w176 8 = some (.int (Int32.ofInt x27)) → ev_lk w176 9 = some (.int (Int32.ofInt x28)) → ev_lk w176 10 = some (.int (Int32.ofInt x97)) → ev_w none (ev_Mof 280) d 128 w176 [] s186 (K  s186) ev_eU ev_PU) ?_ ?_
            · intro  s186 w176 e177 e178 e179 e180 e181 e182 e183 e184 e185
              refine ev_r_iload (pc := 128) (k := 10) (v := Int32.ofInt x97) (by decide +kernel) (by exact e185) ?_
              refine ev_r_if (pc := 130) (q := .eq) (o := 7) (t := 137) (c := x97 = 0) (by decide +kernel) (ev_k_eq hx97 ev_rng0) (by decide +kernel) ?_ ?_
              · intro c187
                exact hK137  s186 _ (by exact e177) (by exact e178) (by exact e179) (by exact e180) (by exact e181) (by exact e182) (by exact e183) (by exact e184) (by exact e185)
              · intro c187
                exact hK133 x97 hx97 s186 _ (by exact e177) (by exact e178) (by exact e179) (by exact e180) (by exact e181) (by exact e182) (by exact e183) (by exact e184) (by exact e185)
            · intro K128 hK128
              refine ev_r_if (pc := 113) (q := .ne) (o := 15) (t := 128) (c := x164 ≠ 0) (by decide +kernel) (ev_k_ne hx164 ev_rng0) (by decide +kernel) ?_ ?_
              · intro c188
                exact hK128  s163 _ (by exact (ev_l1 e30 (by decide) (by decide))) (by exact (ev_l1 e31 (by decide) (by decide))) (by exact (ev_l1 e32 (by decide) (by decide))) (by exact (ev_l1 e33 (by decide) (by decide))) (by exact (ev_l1 e34 (by decide) (by decide))) (by exact (ev_l1 e36 (by decide) (by decide))) (by exact (ev_l1 e37 (by decide) (by decide))) (by exact (ev_lk_st1 e38 (by decide) rfl)) (by exact ev_lk_st1_self)
              · intro c188
                refine ev_r_aload_n (pc := 116) (k := 0) (v := .ref 621) trivial (by decide +kernel) (by exact (ev_l1 e30 (by decide) (by decide))) ?_
                refine ev_r_getC (pc := 117) (y := 19) (ci := 13) (f := 6) (fin := 1) (k' := 625) (by decide +kernel) (by decide +kernel) (by exact ev_ob_621) rfl rfl ?_
                refine ev_r_iload (pc := 120) (k := 5) (v := Int32.ofInt x15) (by decide +kernel) (by exact (ev_l1 e34 (by decide) (by decide))) ?_
                refine ev_r_iald (pc := 122) hx15 (by decide +kernel) (by exact ev_ab_625) ?_
                intro x189 hx189
                refine ev_r_bipush (pc := 123) (k := 13) (by decide +kernel) (by decide +kernel) ?_
                refine ev_r_icmp (pc := 125) (q := .ne) (o := 12) (t := 137) (c := x189 ≠ 13) (by decide +kernel) (ev_k_ne hx189 (by decide)) (by decide +kernel) ?_ ?_
                · intro c190
                  exact hK137  s163 _ (by exact (ev_l1 e30 (by decide) (by decide))) (by exact (ev_l1 e31 (by decide) (by decide))) (by exact (ev_l1 e32 (by decide) (by decide))) (by exact (ev_l1 e33 (by decide) (by decide))) (by exact (ev_l1 e34 (by decide) (by decide))) (by exact (ev_l1 e36 (by decide) (by decide))) (by exact (ev_l1 e37 (by decide) (by decide))) (by exact (ev_lk_st1 e38 (by decide) rfl)) (by exact ev_lk_st1_self)
                · intro c190
                  exact hK128  s163 _ (by exact (ev_l1 e30 (by decide) (by decide))) (by exact (ev_l1 e31 (by decide) (by decide))) (by exact (ev_l1 e32 (by decide) (by decide))) (by exact (ev_l1 e33 (by decide) (by decide))) (by exact (ev_l1 e34 (by decide) (by decide))) (by exact (ev_l1 e36 (by decide) (by decide))) (by exact (ev_l1 e37 (by decide) (by decide))) (by exact (ev_lk_st1 e38 (by decide) rfl)) (by exact ev_lk_st1_self)
theorem jlt_280_80 (d : Nat) (hd : 3 ≤ d + 1) (Q : Nat) (a1 : Int) (x4 : Int) (x5 : Int) (x15 : Int) (ha1 : ev_rng a1) (hx4 : ev_rng x4) (hx5 : ev_rng x5) (hx15 : ev_rng x15) (K16 : Int → Int → ev_St → Option ((Unit) × ev_St)) (hK16 : ∀ (x4 : Int) (hx4 : ev_rng x4), ∀ (x5 : Int) (hx5 : ev_rng x5), ∀ (s11 : ev_St) (w6 : List (Nat × Value)), ev_lk w6 0 = some (.ref 621) → ev_lk w6 2 = some (.int (Int32.ofInt a1)) → ev_lk w6 3 = some (.int (Int32.ofInt x4)) → ev_lk w6 4 = some (.int (Int32.ofInt x5)) → ev_w none (ev_Mof 280) d 16 w6 [] s11 (K16 x4 x5 s11) ev_eU ev_PU) : ∀ q : Nat, ∀ (x25 : Int) (hx25 : ev_rng x25), ∀ (x26 : Int) (hx26 : ev_rng x26), ∀ (x27 : Int) (hx27 : ev_rng x27), ∀ (x28 : Int) (hx28 : ev_rng x28), ∀ (s39 : ev_St) (w29 : List (Nat × Value)), ev_lk w29 0 = some (.ref 621) → ev_lk w29 2 = some (.int (Int32.ofInt a1)) → ev_lk w29 3 = some (.int (Int32.ofInt x4)) → ev_lk w29 4 = some (.int (Int32.ofInt x5)) → ev_lk w29 5 = some (.int (Int32.ofInt x15)) → ev_lk w29 6 = some (.int (Int32.ofInt x25)) → ev_lk w29 7 = some (.int (Int32.ofInt x26)) → ev_lk w29 8 = some (.int (Int32.ofInt x27)) → ev_lk w29 9 = some (.int (Int32.ofInt x28)) → ev_w none (ev_Mof 280) d 80 w29 [] s39 (jl_280_80 Q a1 x4 x5 x15 K16 q x25 x26 x27 x28 s39) ev_eU ev_PU := by
  intro q
  induction q with
  | zero =>
    intro x25 hx25 x26 hx26 x27 hx27 x28 hx28 s39 w29 e30 e31 e32 e33 e34 e35 e36 e37 e38
    exact ev_w_none
  | succ q ih => exact jbt_280_80 d hd Q a1 x4 x5 x15 ha1 hx4 hx5 hx15 K16 hK16 _ ih
def jb_280_16 (Q : Nat) (a1 : Int)  (K16 : Int → Int → ev_St → Option ((Unit) × ev_St)) (x4 : Int) (x5 : Int) (s11 : ev_St) : Option ((Unit) × ev_St) := if x5 < 0 then (some ((), s11)) else (ev_ck (x4 + x5) fun x13 => ev_if ((0 : Int) ≤ x13 ∧ x13 < (ev_aln 625 : Int)) (ev_b (s11.1 625 (Int.toNat x13)) fun x14 => ev_jn (fun (x15 : Int) (x16 : Int) (s23 : ev_St) => ev_if ((0 : Int) ≤ x15 ∧ x15 < (ev_aln 626 : Int)) (ev_b (s23.1 626 (Int.toNat x15)) fun x24 => jl_280_80 Q a1 x4 x5 x15 K16 Q x16 0 0 x24 s23)) fun K63 => ev_jn (fun (x191 : Int) (s198 : ev_St) => K63 x191 0 s198) fun K62 => if x14 ≠ 0 then (K62 x13 s11) else (ev_if ((0 : Int) ≤ x13 ∧ x13 < (ev_aln 633 : Int)) (ev_b (s11.2.1 633 (Int.toNat x13)) fun y200 => ev_if ((0 : Int) ≤ x13 ∧ x13 < (ev_aln 634 : Int)) (ev_b (s11.2.1 634 (Int.toNat x13)) fun y201 => ev_bd (jm_244 Q y200 y201 a1 s11) fun x203 s202 => if x203 = 0 then (K62 x13 s202) else (K63 x13 1 s202))))))
def jl_280_16 (Q : Nat) (a1 : Int)  : Nat → Int → Int → ev_St → Option ((Unit) × ev_St)
  | 0 => fun _ _ _ => none
  | q + 1 => jb_280_16 Q a1  (jl_280_16 Q a1  q)
theorem jbt_280_16 (d : Nat) (hd : 3 ≤ d + 1) (Q : Nat) (a1 : Int) (ha1 : ev_rng a1)   (K16 : Int → Int → ev_St → Option ((Unit) × ev_St)) (hK16 : ∀ (x4 : Int) (hx4 : ev_rng x4), ∀ (x5 : Int) (hx5 : ev_rng x5), ∀ (s11 : ev_St) (w6 : List (Nat × Value)), ev_lk w6 0 = some (.ref 621) → ev_lk w6 2 = some (.int (Int32.ofInt a1)) → ev_lk w6 3 = some (.int (Int32.ofInt x4)) → ev_lk w6 4 = some (.int (Int32.ofInt x5)) → ev_w none (ev_Mof 280) d 16 w6 [] s11 (K16 x4 x5 s11) ev_eU ev_PU) : ∀ (x4 : Int) (hx4 : ev_rng x4), ∀ (x5 : Int) (hx5 : ev_rng x5), ∀ (s11 : ev_St) (w6 : List (Nat × Value)), ev_lk w6 0 = some (.ref 621) → ev_lk w6 2 = some (.int (Int32.ofInt a1)) → ev_lk w6 3 = some (.int (Int32.ofInt x4)) → ev_lk w6 4 = some (.int (Int32.ofInt x5)) → ev_w none (ev_Mof 280) d 16 w6 [] s11 (jb_280_16 Q a1  K16 x4 x5 s11) ev_eU ev_PU := by
  intro x4 hx4 x5 hx5 s11 w6 e7 e8 e9 e10
  unfold jb_280_16
  refine ev_r_iload (pc := 16) (k := 4) (v := Int32.ofInt x5) (by decide +kernel) (by exact e10) ?_
  refine ev_r_if (pc := 18) (q := .lt) (o := 252) (t := 270) (c := x5 < 0) (by decide +kernel) (ev_k_lt hx5 ev_rng0) (by decide +kernel) ?_ ?_
  · intro c12
    exact ev_r_return (pc := 270) (x := ()) trivial (by decide +kernel) (by decide +kernel) rfl
  · intro c12
    refine ev_r_iload_n (pc := 21) (k := 3) (v := Int32.ofInt x4) (by decide +kernel) (by exact e9) ?_
    refine ev_r_iload (pc := 22) (k := 4) (v := Int32.ofInt x5) (by decide +kernel) (by exact e10) ?_
    refine ev_r_iadd (pc := 24) (by decide +kernel) ?_
    intro x13 hx13
    refine ev_r_istore (pc := 25) (k := 5) (by decide +kernel) (by decide +kernel) rfl ?_
    refine ev_r_aload_n (pc := 27) (k := 0) (v := .ref 621) trivial (by decide +kernel) (by exact (ev_l1 e7 (by decide) (by decide))) ?_
    refine ev_r_getC (pc := 28) (y := 19) (ci := 13) (f := 6) (fin := 1) (k' := 625) (by decide +kernel) (by decide +kernel) (by exact ev_ob_621) rfl rfl ?_
    refine ev_r_iload (pc := 31) (k := 5) (v := Int32.ofInt x13) (by decide +kernel) (by exact ev_lk_st1_self) ?_
    refine ev_r_iald (pc := 33) hx13 (by decide +kernel) (by exact ev_ab_625) ?_
    intro x14 hx14
    refine ev_r_jn (Q := fun K => ∀ (x15 : Int) (hx15 : ev_rng x15), ∀ (x16 : Int) (hx16 : ev_rng x16), ∀ (s23 : ev_St) (w17 : List (Nat × Value)), ev_lk w17 0 = some (.ref 621) → ev_lk w17 2 = some (.int (Int32.ofInt a1)) → ev_lk w17 3 = some (.int (Int32.ofInt x4)) → ev_lk w17 4 = some (.int (Int32.ofInt x5)) → ev_lk w17 5 = some (.int (Int32.ofInt x15)) → ev_w none (ev_Mof 280) d 63 w17 [.int (Int32.ofInt x16)] s23 (K x15 x16 s23) ev_eU ev_PU) ?_ ?_
    · intro x15 hx15 x16 hx16 s23 w17 e18 e19 e20 e21 e22
      refine ev_r_istore (pc := 63) (k := 6) (by decide +kernel) (by decide +kernel) rfl ?_
      refine ev_r_iconst (pc := 65) (k := 0) (by decide +kernel) ?_
      refine ev_r_istore (pc := 66) (k := 7) (by decide +kernel) (by decide +kernel) rfl ?_
      refine ev_r_iconst (pc := 68) (k := 0) (by decide +kernel) ?_
      refine ev_r_istore (pc := 69) (k := 8) (by decide +kernel) (by decide +kernel) rfl ?_
      refine ev_r_aload_n (pc := 71) (k := 0) (v := .ref 621) trivial (by decide +kernel) (by exact (ev_l1 (ev_l1 (ev_l1 e18 (by decide) (by decide)) (by decide) (by decide)) (by decide) (by decide))) ?_
      refine ev_r_getC (pc := 72) (y := 22) (ci := 13) (f := 7) (fin := 1) (k' := 626) (by decide +kernel) (by decide +kernel) (by exact ev_ob_621) rfl rfl ?_
      refine ev_r_iload (pc := 75) (k := 5) (v := Int32.ofInt x15) (by decide +kernel) (by exact (ev_l1 (ev_l1 (ev_lk_st1 e22 (by decide) rfl) (by decide) (by decide)) (by decide) (by decide))) ?_
      refine ev_r_iald (pc := 77) hx15 (by decide +kernel) (by exact ev_ab_626) ?_
      intro x24 hx24
      refine ev_r_istore (pc := 78) (k := 9) (by decide +kernel) (by decide +kernel) rfl ?_
      exact jlt_280_80 d hd Q a1 x4 x5 x15 ha1 hx4 hx5 hx15 K16 hK16 Q x16 hx16 0 (by decide) 0 (by decide) x24 hx24 s23 _ (by exact (ev_l1 (ev_l1 (ev_l1 (ev_l1 e18 (by decide) (by decide)) (by decide) (by decide)) (by decide) (by decide)) (by decide) (by decide))) (by exact (ev_l1 (ev_l1 (ev_l1 (ev_l1 e19 (by decide) (by decide)) (by decide) (by decide)) (by decide) (by decide)) (by decide) (by decide))) (by exact (ev_l1 (ev_l1 (ev_l1 (ev_l1 e20 (by decide) (by decide)) (by decide) (by decide)) (by decide) (by decide)) (by decide) (by decide))) (by exact (ev_l1 (ev_l1 (ev_l1 (ev_l1 e21 (by decide) (by decide)) (by decide) (by decide)) (by decide) (by decide)) (by decide) (by decide))) (by exact (ev_l1 (ev_l1 (ev_l1 (ev_lk_st1 e22 (by decide) rfl) (by decide) (by decide)) (by decide) (by decide)) (by decide) (by decide))) (by exact (ev_l1 (ev_l1 (ev_lk_st1 ev_lk_st1_self (by decide) rfl) (by decide) (by decide)) (by decide) (by decide))) (by exact (ev_l1 (ev_lk_st1 ev_lk_st1_self (by decide) rfl) (by decide) (by decide))) (by exact (ev_lk_st1 ev_lk_st1_self (by decide) rfl)) (by exact ev_lk_st1_self)
    · intro K63 hK63
      refine ev_r_jn (Q := fun K => ∀ (x191 : Int) (hx191 : ev_rng x191), ∀ (s198 : ev_St) (w192 : List (Nat × Value)), ev_lk w192 0 = some (.ref 621) → ev_lk w192 2 = some (.int (Int32.ofInt a1)) → ev_lk w192 3 = some (.int (Int32.ofInt x4)) → ev_lk w192 4 = some (.int (Int32.ofInt x5)) → ev_lk w192 5 = some (.int (Int32.ofInt x191)) → ev_w none (ev_Mof 280) d 62 w192 [] s198 (K x191 s198) ev_eU ev_PU) ?_ ?_
      · intro x191 hx191 s198 w192 e193 e194 e195 e196 e197
        refine ev_r_iconst (pc := 62) (k := 0) (by decide +kernel) ?_
        exact hK63 x191 hx191 0 (by decide) s198 _ (by exact e193) (by exact e194) (by exact e195) (by exact e196) (by exact e197)
      · intro K62 hK62
        refine ev_r_if (pc := 34) (q := .ne) (o := 28) (t := 62) (c := x14 ≠ 0) (by decide +kernel) (ev_k_ne hx14 ev_rng0) (by decide +kernel) ?_ ?_
        · intro c199
          exact hK62 x13 hx13 s11 _ (by exact (ev_l1 e7 (by decide) (by decide))) (by exact (ev_l1 e8 (by decide) (by decide))) (by exact (ev_l1 e9 (by decide) (by decide))) (by exact (ev_lk_st1 e10 (by decide) rfl)) (by exact ev_lk_st1_self)
        · intro c199
          refine ev_r_aload_n (pc := 37) (k := 0) (v := .ref 621) trivial (by decide +kernel) (by exact (ev_l1 e7 (by decide) (by decide))) ?_
          refine ev_r_getC (pc := 38) (y := 43) (ci := 13) (f := 14) (fin := 1) (k' := 633) (by decide +kernel) (by decide +kernel) (by exact ev_ob_621) rfl rfl ?_
          refine ev_r_iload (pc := 41) (k := 5) (v := Int32.ofInt x13) (by decide +kernel) (by exact ev_lk_st1_self) ?_
          refine ev_r_lald (pc := 43) hx13 (by decide +kernel) (by exact ev_ab_633) ?_
          intro y200
          refine ev_r_aload_n (pc := 44) (k := 0) (v := .ref 621) trivial (by decide +kernel) (by exact (ev_l1 e7 (by decide) (by decide))) ?_
          refine ev_r_getC (pc := 45) (y := 47) (ci := 13) (f := 15) (fin := 1) (k' := 634) (by decide +kernel) (by decide +kernel) (by exact ev_ob_621) rfl rfl ?_
          refine ev_r_iload (pc := 48) (k := 5) (v := Int32.ofInt x13) (by decide +kernel) (by exact ev_lk_st1_self) ?_
          refine ev_r_lald (pc := 50) hx13 (by decide +kernel) (by exact ev_ab_634) ?_
          intro y201
          refine ev_r_iload_n (pc := 51) (k := 2) (v := Int32.ofInt a1) (by decide +kernel) (by exact (ev_l1 e8 (by decide) (by decide))) ?_
          refine ev_r_stat (pc := 52) (y := 534) (kind := 2) (mi := 244) (na := 3) (as := [.long y200, .long y201, .int (Int32.ofInt a1)]) (rest := []) (encc := ev_oI) (Q := ev_bl) (fun x S1 h => jt_244 d (by omega) Q y200 y201 a1 ha1 s11 x S1 h) (Or.inl rfl) (by decide +kernel) (by decide +kernel) (by decide +kernel) (by decide +kernel) rfl (by (try simp only [ev_sum, ev_nv_cat]); first | done | rfl) ?_
          intro x203 s202 hx203
          replace hx203 := ev_bl_rng hx203
          show ev_w _ _ _ _ _ [.int (Int32.ofInt x203)] _ _ _ _
          refine ev_r_if (pc := 55) (q := .eq) (o := 7) (t := 62) (c := x203 = 0) (by decide +kernel) (ev_k_eq hx203 ev_rng0) (by decide +kernel) ?_ ?_
          · intro c204
            exact hK62 x13 hx13 s202 _ (by exact (ev_l1 e7 (by decide) (by decide))) (by exact (ev_l1 e8 (by decide) (by decide))) (by exact (ev_l1 e9 (by decide) (by decide))) (by exact (ev_lk_st1 e10 (by decide) rfl)) (by exact ev_lk_st1_self)
          · intro c204
            refine ev_r_iconst (pc := 58) (k := 1) (by decide +kernel) ?_
            refine ev_r_goto (pc := 59) (o := 4) (t := 63) (by decide +kernel) (by decide +kernel) ?_
            exact hK63 x13 hx13 1 (by decide) s202 _ (by exact (ev_l1 e7 (by decide) (by decide))) (by exact (ev_l1 e8 (by decide) (by decide))) (by exact (ev_l1 e9 (by decide) (by decide))) (by exact (ev_lk_st1 e10 (by decide) rfl)) (by exact ev_lk_st1_self)
theorem jlt_280_16 (d : Nat) (hd : 3 ≤ d + 1) (Q : Nat) (a1 : Int) (ha1 : ev_rng a1)   : ∀ q : Nat, ∀ (x4 : Int) (hx4 : ev_rng x4), ∀ (x5 : Int) (hx5 : ev_rng x5), ∀ (s11 : ev_St) (w6 : List (Nat × Value)), ev_lk w6 0 = some (.ref 621) → ev_lk w6 2 = some (.int (Int32.ofInt a1)) → ev_lk w6 3 = some (.int (Int32.ofInt x4)) → ev_lk w6 4 = some (.int (Int32.ofInt x5)) → ev_w none (ev_Mof 280) d 16 w6 [] s11 (jl_280_16 Q a1  q x4 x5 s11) ev_eU ev_PU := by
  intro q
  induction q with
  | zero =>
    intro x4 hx4 x5 hx5 s11 w6 e7 e8 e9 e10
    exact ev_w_none
  | succ q ih => exact jbt_280_16 d hd Q a1 ha1   _ ih
/-- MendBenchModel.marksJust(II)V -/
def jm_280 (Q : Nat) (a0 : Int) (a1 : Int) (S : ev_St) : Option ((Unit) × ev_St) := ev_ck (320 * a0) fun x1 => ev_if ((0 : Int) ≤ a0 ∧ a0 < (ev_aln 635 : Int)) (ev_b (S.1 635 (Int.toNat a0)) fun x2 => ev_ck (x2 - 1) fun x3 => jl_280_16 Q a1  Q x1 x3 S)
theorem jt_280 (d : Nat) (hd : 3 ≤ d) (Q : Nat) (a0 : Int) (a1 : Int) (ha0 : ev_rng a0) (ha1 : ev_rng a1) (S : ev_St) (x : Unit) (S' : ev_St) (hJ : jm_280 Q a0 a1 S = some (x, S')) : ev_Ref d 280 [.ref 621, .int (Int32.ofInt a0), .int (Int32.ofInt a1)] S (ev_eU x) S' (ev_PU x) := by
  obtain ⟨d, rfl⟩ : ∃ e, d = e + 1 := ⟨d - 1, by omega⟩
  refine ev_ref_of (P := ev_PU) (lv := [(0, .ref 621), (1, .int (Int32.ofInt a0)), (2, .int (Int32.ofInt a1))]) (by decide +kernel) (by (try simp only [ev_sum, ev_nv_cat]); first | done | rfl) (by (try simp only [lv_args, ev_nv_cat]); first | done | rfl) ?_ x S' hJ
  unfold jm_280
  refine ev_r_sipush (pc := 0) (k := 320) (by decide +kernel) (by decide +kernel) ?_
  refine ev_r_iload_n (pc := 3) (k := 1) (v := Int32.ofInt a0) (by decide +kernel) (by rfl) ?_
  refine ev_r_imul (pc := 4) (by decide +kernel) ?_
  intro x1 hx1
  refine ev_r_istore_n (pc := 5) (k := 3) (by decide +kernel) (by decide +kernel) rfl ?_
  refine ev_r_aload_n (pc := 6) (k := 0) (v := .ref 621) trivial (by decide +kernel) (by exact (ev_l1 (by rfl) (by decide) (by decide))) ?_
  refine ev_r_getC (pc := 7) (y := 50) (ci := 13) (f := 16) (fin := 1) (k' := 635) (by decide +kernel) (by decide +kernel) (by exact ev_ob_621) rfl rfl ?_
  refine ev_r_iload_n (pc := 10) (k := 1) (v := Int32.ofInt a0) (by decide +kernel) (by exact (ev_l1 (by rfl) (by decide) (by decide))) ?_
  refine ev_r_iald (pc := 11) ha0 (by decide +kernel) (by exact ev_ab_635) ?_
  intro x2 hx2
  refine ev_r_iconst (pc := 12) (k := 1) (by decide +kernel) ?_
  refine ev_r_isub (pc := 13) (by decide +kernel) ?_
  intro x3 hx3
  refine ev_r_istore (pc := 14) (k := 4) (by decide +kernel) (by decide +kernel) rfl ?_
  exact jlt_280_16 d hd Q a1 ha1   Q x1 hx1 x3 hx3 S _ (by exact (ev_l1 (ev_l1 (by rfl) (by decide) (by decide)) (by decide) (by decide))) (by exact (ev_l1 (ev_lk_st1 (by rfl) (by decide) rfl) (by decide) (by decide))) (by exact (ev_lk_st1 ev_lk_st1_self (by decide) rfl)) (by exact ev_lk_st1_self)
/-- MendBenchModel.isEndless(I)Z -/
def jm_282 (Q : Nat) (a0 : Int) (S : ev_St) : Option ((Int) × ev_St) := ev_if ((0 : Int) ≤ a0 ∧ a0 < (ev_aln 630 : Int)) (ev_b (S.1 630 (Int.toNat a0)) fun x1 => ev_jn (fun  (s5 : ev_St) => ev_if ((0 : Int) ≤ a0 ∧ a0 < (ev_aln 632 : Int)) (ev_b (s5.1 632 (Int.toNat a0)) fun x6 => if x6 ≠ (-1) then (some (0, s5)) else (some (1, s5)))) fun K19 => if x1 = 0 then (K19  S) else (ev_if ((0 : Int) ≤ a0 ∧ a0 < (ev_aln 630 : Int)) (ev_b (S.1 630 (Int.toNat a0)) fun x9 => if x9 ≠ 1 then (some (0, S)) else (K19  S))))
theorem jt_282 (d : Nat) (hd : 1 ≤ d) (Q : Nat) (a0 : Int) (ha0 : ev_rng a0) (S : ev_St) (x : Int) (S' : ev_St) (hJ : jm_282 Q a0 S = some (x, S')) : ev_Ref d 282 [.ref 621, .int (Int32.ofInt a0)] S (ev_eI x) S' (ev_bl x) := by
  obtain ⟨d, rfl⟩ : ∃ e, d = e + 1 := ⟨d - 1, by omega⟩
  refine ev_ref_of (P := ev_bl) (lv := [(0, .ref 621), (1, .int (Int32.ofInt a0))]) (by decide +kernel) (by (try simp only [ev_sum, ev_nv_cat]); first | done | rfl) (by (try simp only [lv_args, ev_nv_cat]); first | done | rfl) ?_ x S' hJ
  unfold jm_282
  refine ev_r_aload_n (pc := 0) (k := 0) (v := .ref 621) trivial (by decide +kernel) (by rfl) ?_
  refine ev_r_getC (pc := 1) (y := 34) (ci := 13) (f := 11) (fin := 1) (k' := 630) (by decide +kernel) (by decide +kernel) (by exact ev_ob_621) rfl rfl ?_
  refine ev_r_iload_n (pc := 4) (k := 1) (v := Int32.ofInt a0) (by decide +kernel) (by rfl) ?_
  refine ev_r_iald (pc := 5) ha0 (by decide +kernel) (by exact ev_ab_630) ?_
  intro x1 hx1
  refine ev_r_jn (Q := fun K => ∀ (s5 : ev_St) (w2 : List (Nat × Value)), ev_lk w2 0 = some (.ref 621) → ev_lk w2 1 = some (.int (Int32.ofInt a0)) → ev_w none (ev_Mof 282) d 19 w2 [] s5 (K  s5) ev_eI ev_bl) ?_ ?_
  · intro  s5 w2 e3 e4
    refine ev_r_aload_n (pc := 19) (k := 0) (v := .ref 621) trivial (by decide +kernel) (by exact e3) ?_
    refine ev_r_getC (pc := 20) (y := 40) (ci := 13) (f := 13) (fin := 1) (k' := 632) (by decide +kernel) (by decide +kernel) (by exact ev_ob_621) rfl rfl ?_
    refine ev_r_iload_n (pc := 23) (k := 1) (v := Int32.ofInt a0) (by decide +kernel) (by exact e4) ?_
    refine ev_r_iald (pc := 24) ha0 (by decide +kernel) (by exact ev_ab_632) ?_
    intro x6 hx6
    refine ev_r_iconst (pc := 25) (k := -1) (by decide +kernel) ?_
    refine ev_r_icmp (pc := 26) (q := .ne) (o := 7) (t := 33) (c := x6 ≠ (-1)) (by decide +kernel) (ev_k_ne hx6 (by decide)) (by decide +kernel) ?_ ?_
    · intro c7
      refine ev_r_iconst (pc := 33) (k := 0) (by decide +kernel) ?_
      exact ev_r_ireturn (pc := 34) (x := 0) (v := Int32.ofInt 0) (ty := .boolean) (by decide : ev_bl 0) (by decide +kernel) (by decide +kernel) (ev_ret_bl (by decide : ev_bl 0)) rfl
    · intro c7
      refine ev_r_iconst (pc := 29) (k := 1) (by decide +kernel) ?_
      refine ev_r_goto (pc := 30) (o := 4) (t := 34) (by decide +kernel) (by decide +kernel) ?_
      exact ev_r_ireturn (pc := 34) (x := 1) (v := Int32.ofInt 1) (ty := .boolean) (by decide : ev_bl 1) (by decide +kernel) (by decide +kernel) (ev_ret_bl (by decide : ev_bl 1)) rfl
  · intro K19 hK19
    refine ev_r_if (pc := 6) (q := .eq) (o := 13) (t := 19) (c := x1 = 0) (by decide +kernel) (ev_k_eq hx1 ev_rng0) (by decide +kernel) ?_ ?_
    · intro c8
      exact hK19  S _ (by rfl) (by rfl)
    · intro c8
      refine ev_r_aload_n (pc := 9) (k := 0) (v := .ref 621) trivial (by decide +kernel) (by rfl) ?_
      refine ev_r_getC (pc := 10) (y := 34) (ci := 13) (f := 11) (fin := 1) (k' := 630) (by decide +kernel) (by decide +kernel) (by exact ev_ob_621) rfl rfl ?_
      refine ev_r_iload_n (pc := 13) (k := 1) (v := Int32.ofInt a0) (by decide +kernel) (by rfl) ?_
      refine ev_r_iald (pc := 14) ha0 (by decide +kernel) (by exact ev_ab_630) ?_
      intro x9 hx9
      refine ev_r_iconst (pc := 15) (k := 1) (by decide +kernel) ?_
      refine ev_r_icmp (pc := 16) (q := .ne) (o := 17) (t := 33) (c := x9 ≠ 1) (by decide +kernel) (ev_k_ne hx9 (by decide)) (by decide +kernel) ?_ ?_
      · intro c10
        refine ev_r_iconst (pc := 33) (k := 0) (by decide +kernel) ?_
        exact ev_r_ireturn (pc := 34) (x := 0) (v := Int32.ofInt 0) (ty := .boolean) (by decide : ev_bl 0) (by decide +kernel) (by decide +kernel) (ev_ret_bl (by decide : ev_bl 0)) rfl
      · intro c10
        exact hK19  S _ (by rfl) (by rfl)
def jb_283_35 (Q : Nat) (a0 : Int) (x3 : Int) (x4 : Int) (K15 : Int → Int → ev_St → Option ((Unit) × ev_St)) (K35 : Int → ev_St → Option ((Unit) × ev_St)) (x15 : Int) (s22 : ev_St) : Option ((Unit) × ev_St) := if x15 = (-1) then (ev_ck (x4 + 1) fun x24 => K15 x3 x24 s22) else (ev_if ((0 : Int) ≤ x15 ∧ x15 < (ev_aln 659 : Int)) (ev_b (ev_pI s22 659 (Int.toNat x15) x4) fun s25 => ev_ck (x3 + x15) fun x26 => ev_if ((0 : Int) ≤ x26 ∧ x26 < (ev_aln 627 : Int)) (ev_b (s25.1 627 (Int.toNat x26)) fun x27 => K35 x27 s25)))
def jl_283_35 (Q : Nat) (a0 : Int) (x3 : Int) (x4 : Int) (K15 : Int → Int → ev_St → Option ((Unit) × ev_St)) : Nat → Int → ev_St → Option ((Unit) × ev_St)
  | 0 => fun _ _ => none
  | q + 1 => jb_283_35 Q a0 x3 x4 K15 (jl_283_35 Q a0 x3 x4 K15 q)
theorem jbt_283_35 (d : Nat) (hd : 1 ≤ d + 1) (Q : Nat) (a0 : Int) (x3 : Int) (x4 : Int) (ha0 : ev_rng a0) (hx3 : ev_rng x3) (hx4 : ev_rng x4) (K15 : Int → Int → ev_St → Option ((Unit) × ev_St)) (hK15 : ∀ (x3 : Int) (hx3 : ev_rng x3), ∀ (x4 : Int) (hx4 : ev_rng x4), ∀ (s10 : ev_St) (w5 : List (Nat × Value)), ev_lk w5 0 = some (.ref 621) → ev_lk w5 1 = some (.int (Int32.ofInt a0)) → ev_lk w5 2 = some (.int (Int32.ofInt x3)) → ev_lk w5 3 = some (.int (Int32.ofInt x4)) → ev_w none (ev_Mof 283) d 15 w5 [] s10 (K15 x3 x4 s10) ev_eU ev_PU) (K35 : Int → ev_St → Option ((Unit) × ev_St)) (hK35 : ∀ (x15 : Int) (hx15 : ev_rng x15), ∀ (s22 : ev_St) (w16 : List (Nat × Value)), ev_lk w16 0 = some (.ref 621) → ev_lk w16 1 = some (.int (Int32.ofInt a0)) → ev_lk w16 2 = some (.int (Int32.ofInt x3)) → ev_lk w16 3 = some (.int (Int32.ofInt x4)) → ev_lk w16 4 = some (.int (Int32.ofInt x15)) → ev_w none (ev_Mof 283) d 35 w16 [] s22 (K35 x15 s22) ev_eU ev_PU) : ∀ (x15 : Int) (hx15 : ev_rng x15), ∀ (s22 : ev_St) (w16 : List (Nat × Value)), ev_lk w16 0 = some (.ref 621) → ev_lk w16 1 = some (.int (Int32.ofInt a0)) → ev_lk w16 2 = some (.int (Int32.ofInt x3)) → ev_lk w16 3 = some (.int (Int32.ofInt x4)) → ev_lk w16 4 = some (.int (Int32.ofInt x15)) → ev_w none (ev_Mof 283) d 35 w16 [] s22 (jb_283_35 Q a0 x3 x4 K15 K35 x15 s22) ev_eU ev_PU := by
  intro x15 hx15 s22 w16 e17 e18 e19 e20 e21
  unfold jb_283_35
  refine ev_r_iload (pc := 35) (k := 4) (v := Int32.ofInt x15) (by decide +kernel) (by exact e21) ?_
  refine ev_r_iconst (pc := 37) (k := -1) (by decide +kernel) ?_
  refine ev_r_icmp (pc := 38) (q := .eq) (o := 25) (t := 63) (c := x15 = (-1)) (by decide +kernel) (ev_k_eq hx15 (by decide)) (by decide +kernel) ?_ ?_
  · intro c23
    refine ev_r_iinc (pc := 63) (k := 3) (c := 1) (x := x4) (by decide +kernel) (by decide +kernel) (by exact e20) (fun _ => rfl) ?_
    intro x24 hx24
    refine ev_r_goto (pc := 66) (o := (-51)) (t := 15) (by decide +kernel) (by decide +kernel) ?_
    exact hK15 x3 hx3 x24 hx24 s22 _ (by exact (ev_l1 e17 (by decide) (by decide))) (by exact (ev_l1 e18 (by decide) (by decide))) (by exact (ev_lk_st1 e19 (by decide) rfl)) (by exact ev_lk_st1_self)
  · intro c23
    refine ev_r_aload_n (pc := 41) (k := 0) (v := .ref 621) trivial (by decide +kernel) (by exact e17) ?_
    refine ev_r_getC (pc := 42) (y := 123) (ci := 13) (f := 51) (fin := 1) (k' := 659) (by decide +kernel) (by decide +kernel) (by exact ev_ob_621) rfl rfl ?_
    refine ev_r_iload (pc := 45) (k := 4) (v := Int32.ofInt x15) (by decide +kernel) (by exact e21) ?_
    refine ev_r_iload_n (pc := 47) (k := 3) (v := Int32.ofInt x4) (by decide +kernel) (by exact e20) ?_
    refine ev_r_iast (pc := 48) hx4 hx15 (by decide +kernel) (by exact ev_ab_659) ?_
    intro s25
    refine ev_r_aload_n (pc := 49) (k := 0) (v := .ref 621) trivial (by decide +kernel) (by exact e17) ?_
    refine ev_r_getC (pc := 50) (y := 25) (ci := 13) (f := 8) (fin := 1) (k' := 627) (by decide +kernel) (by decide +kernel) (by exact ev_ob_621) rfl rfl ?_
    refine ev_r_iload_n (pc := 53) (k := 2) (v := Int32.ofInt x3) (by decide +kernel) (by exact e19) ?_
    refine ev_r_iload (pc := 54) (k := 4) (v := Int32.ofInt x15) (by decide +kernel) (by exact e21) ?_
    refine ev_r_iadd (pc := 56) (by decide +kernel) ?_
    intro x26 hx26
    refine ev_r_iald (pc := 57) hx26 (by decide +kernel) (by exact ev_ab_627) ?_
    intro x27 hx27
    refine ev_r_istore (pc := 58) (k := 4) (by decide +kernel) (by decide +kernel) rfl ?_
    refine ev_r_goto (pc := 60) (o := (-25)) (t := 35) (by decide +kernel) (by decide +kernel) ?_
    exact hK35 x27 hx27 s25 _ (by exact (ev_l1 e17 (by decide) (by decide))) (by exact (ev_l1 e18 (by decide) (by decide))) (by exact (ev_l1 e19 (by decide) (by decide))) (by exact (ev_lk_st1 e20 (by decide) rfl)) (by exact ev_lk_st1_self)
theorem jlt_283_35 (d : Nat) (hd : 1 ≤ d + 1) (Q : Nat) (a0 : Int) (x3 : Int) (x4 : Int) (ha0 : ev_rng a0) (hx3 : ev_rng x3) (hx4 : ev_rng x4) (K15 : Int → Int → ev_St → Option ((Unit) × ev_St)) (hK15 : ∀ (x3 : Int) (hx3 : ev_rng x3), ∀ (x4 : Int) (hx4 : ev_rng x4), ∀ (s10 : ev_St) (w5 : List (Nat × Value)), ev_lk w5 0 = some (.ref 621) → ev_lk w5 1 = some (.int (Int32.ofInt a0)) → ev_lk w5 2 = some (.int (Int32.ofInt x3)) → ev_lk w5 3 = some (.int (Int32.ofInt x4)) → ev_w none (ev_Mof 283) d 15 w5 [] s10 (K15 x3 x4 s10) ev_eU ev_PU) : ∀ q : Nat, ∀ (x15 : Int) (hx15 : ev_rng x15), ∀ (s22 : ev_St) (w16 : List (Nat × Value)), ev_lk w16 0 = some (.ref 621) → ev_lk w16 1 = some (.int (Int32.ofInt a0)) → ev_lk w16 2 = some (.int (Int32.ofInt x3)) → ev_lk w16 3 = some (.int (Int32.ofInt x4)) → ev_lk w16 4 = some (.int (Int32.ofInt x15)) → ev_w none (ev_Mof 283) d 35 w16 [] s22 (jl_283_35 Q a0 x3 x4 K15 q x15 s22) ev_eU ev_PU := by
  intro q
  induction q with
  | zero =>
    intro x15 hx15 s22 w16 e17 e18 e19 e20 e21
    exact ev_w_none
  | succ q ih => exact jbt_283_35 d hd Q a0 x3 x4 ha0 hx3 hx4 K15 hK15 _ ih
def jb_283_15 (Q : Nat) (a0 : Int)  (K15 : Int → Int → ev_St → Option ((Unit) × ev_St)) (x3 : Int) (x4 : Int) (s10 : ev_St) : Option ((Unit) × ev_St) := ev_if ((0 : Int) ≤ a0 ∧ a0 < (ev_aln 635 : Int)) (ev_b (s10.1 635 (Int.toNat a0)) fun x11 => if x11 ≤ x4 then (some ((), s10)) else (ev_ck (x3 + x4) fun x13 => ev_if ((0 : Int) ≤ x13 ∧ x13 < (ev_aln 626 : Int)) (ev_b (s10.1 626 (Int.toNat x13)) fun x14 => jl_283_35 Q a0 x3 x4 K15 Q x14 s10)))
def jl_283_15 (Q : Nat) (a0 : Int)  : Nat → Int → Int → ev_St → Option ((Unit) × ev_St)
  | 0 => fun _ _ _ => none
  | q + 1 => jb_283_15 Q a0  (jl_283_15 Q a0  q)
theorem jbt_283_15 (d : Nat) (hd : 1 ≤ d + 1) (Q : Nat) (a0 : Int) (ha0 : ev_rng a0)   (K15 : Int → Int → ev_St → Option ((Unit) × ev_St)) (hK15 : ∀ (x3 : Int) (hx3 : ev_rng x3), ∀ (x4 : Int) (hx4 : ev_rng x4), ∀ (s10 : ev_St) (w5 : List (Nat × Value)), ev_lk w5 0 = some (.ref 621) → ev_lk w5 1 = some (.int (Int32.ofInt a0)) → ev_lk w5 2 = some (.int (Int32.ofInt x3)) → ev_lk w5 3 = some (.int (Int32.ofInt x4)) → ev_w none (ev_Mof 283) d 15 w5 [] s10 (K15 x3 x4 s10) ev_eU ev_PU) : ∀ (x3 : Int) (hx3 : ev_rng x3), ∀ (x4 : Int) (hx4 : ev_rng x4), ∀ (s10 : ev_St) (w5 : List (Nat × Value)), ev_lk w5 0 = some (.ref 621) → ev_lk w5 1 = some (.int (Int32.ofInt a0)) → ev_lk w5 2 = some (.int (Int32.ofInt x3)) → ev_lk w5 3 = some (.int (Int32.ofInt x4)) → ev_w none (ev_Mof 283) d 15 w5 [] s10 (jb_283_15 Q a0  K15 x3 x4 s10) ev_eU ev_PU := by
  intro x3 hx3 x4 hx4 s10 w5 e6 e7 e8 e9
  unfold jb_283_15
  refine ev_r_iload_n (pc := 15) (k := 3) (v := Int32.ofInt x4) (by decide +kernel) (by exact e9) ?_
  refine ev_r_aload_n (pc := 16) (k := 0) (v := .ref 621) trivial (by decide +kernel) (by exact e6) ?_
  refine ev_r_getC (pc := 17) (y := 50) (ci := 13) (f := 16) (fin := 1) (k' := 635) (by decide +kernel) (by decide +kernel) (by exact ev_ob_621) rfl rfl ?_
  refine ev_r_iload_n (pc := 20) (k := 1) (v := Int32.ofInt a0) (by decide +kernel) (by exact e7) ?_
  refine ev_r_iald (pc := 21) ha0 (by decide +kernel) (by exact ev_ab_635) ?_
  intro x11 hx11
  refine ev_r_icmp (pc := 22) (q := .ge) (o := 47) (t := 69) (c := x11 ≤ x4) (by decide +kernel) (ev_k_ge hx4 hx11) (by decide +kernel) ?_ ?_
  · intro c12
    exact ev_r_return (pc := 69) (x := ()) trivial (by decide +kernel) (by decide +kernel) rfl
  · intro c12
    refine ev_r_aload_n (pc := 25) (k := 0) (v := .ref 621) trivial (by decide +kernel) (by exact e6) ?_
    refine ev_r_getC (pc := 26) (y := 22) (ci := 13) (f := 7) (fin := 1) (k' := 626) (by decide +kernel) (by decide +kernel) (by exact ev_ob_621) rfl rfl ?_
    refine ev_r_iload_n (pc := 29) (k := 2) (v := Int32.ofInt x3) (by decide +kernel) (by exact e8) ?_
    refine ev_r_iload_n (pc := 30) (k := 3) (v := Int32.ofInt x4) (by decide +kernel) (by exact e9) ?_
    refine ev_r_iadd (pc := 31) (by decide +kernel) ?_
    intro x13 hx13
    refine ev_r_iald (pc := 32) hx13 (by decide +kernel) (by exact ev_ab_626) ?_
    intro x14 hx14
    refine ev_r_istore (pc := 33) (k := 4) (by decide +kernel) (by decide +kernel) rfl ?_
    exact jlt_283_35 d hd Q a0 x3 x4 ha0 hx3 hx4 K15 hK15 Q x14 hx14 s10 _ (by exact (ev_l1 e6 (by decide) (by decide))) (by exact (ev_l1 e7 (by decide) (by decide))) (by exact (ev_l1 e8 (by decide) (by decide))) (by exact (ev_lk_st1 e9 (by decide) rfl)) (by exact ev_lk_st1_self)
theorem jlt_283_15 (d : Nat) (hd : 1 ≤ d + 1) (Q : Nat) (a0 : Int) (ha0 : ev_rng a0)   : ∀ q : Nat, ∀ (x3 : Int) (hx3 : ev_rng x3), ∀ (x4 : Int) (hx4 : ev_rng x4), ∀ (s10 : ev_St) (w5 : List (Nat × Value)), ev_lk w5 0 = some (.ref 621) → ev_lk w5 1 = some (.int (Int32.ofInt a0)) → ev_lk w5 2 = some (.int (Int32.ofInt x3)) → ev_lk w5 3 = some (.int (Int32.ofInt x4)) → ev_w none (ev_Mof 283) d 15 w5 [] s10 (jl_283_15 Q a0  q x3 x4 s10) ev_eU ev_PU := by
  intro q
  induction q with
  | zero =>
    intro x3 hx3 x4 hx4 s10 w5 e6 e7 e8 e9
    exact ev_w_none
  | succ q ih => exact jbt_283_15 d hd Q a0 ha0   _ ih
/-- MendBenchModel.lays(I)V -/
def jm_283 (Q : Nat) (a0 : Int) (S : ev_St) : Option ((Unit) × ev_St) := ev_ck (320 * a0) fun x1 => ev_if ((0 : Int) ≤ 0 ∧ 0 < (ev_aln 659 : Int)) (ev_b (ev_pI S 659 (Int.toNat 0) ((-1))) fun s2 => jl_283_15 Q a0  Q x1 0 s2)
theorem jt_283 (d : Nat) (hd : 1 ≤ d) (Q : Nat) (a0 : Int) (ha0 : ev_rng a0) (S : ev_St) (x : Unit) (S' : ev_St) (hJ : jm_283 Q a0 S = some (x, S')) : ev_Ref d 283 [.ref 621, .int (Int32.ofInt a0)] S (ev_eU x) S' (ev_PU x) := by
  obtain ⟨d, rfl⟩ : ∃ e, d = e + 1 := ⟨d - 1, by omega⟩
  refine ev_ref_of (P := ev_PU) (lv := [(0, .ref 621), (1, .int (Int32.ofInt a0))]) (by decide +kernel) (by (try simp only [ev_sum, ev_nv_cat]); first | done | rfl) (by (try simp only [lv_args, ev_nv_cat]); first | done | rfl) ?_ x S' hJ
  unfold jm_283
  refine ev_r_sipush (pc := 0) (k := 320) (by decide +kernel) (by decide +kernel) ?_
  refine ev_r_iload_n (pc := 3) (k := 1) (v := Int32.ofInt a0) (by decide +kernel) (by rfl) ?_
  refine ev_r_imul (pc := 4) (by decide +kernel) ?_
  intro x1 hx1
  refine ev_r_istore_n (pc := 5) (k := 2) (by decide +kernel) (by decide +kernel) rfl ?_
  refine ev_r_aload_n (pc := 6) (k := 0) (v := .ref 621) trivial (by decide +kernel) (by exact (ev_l1 (by rfl) (by decide) (by decide))) ?_
  refine ev_r_getC (pc := 7) (y := 123) (ci := 13) (f := 51) (fin := 1) (k' := 659) (by decide +kernel) (by decide +kernel) (by exact ev_ob_621) rfl rfl ?_
  refine ev_r_iconst (pc := 10) (k := 0) (by decide +kernel) ?_
  refine ev_r_iconst (pc := 11) (k := -1) (by decide +kernel) ?_
  refine ev_r_iast (pc := 12) (by decide) (by decide) (by decide +kernel) (by exact ev_ab_659) ?_
  intro s2
  refine ev_r_iconst (pc := 13) (k := 0) (by decide +kernel) ?_
  refine ev_r_istore_n (pc := 14) (k := 3) (by decide +kernel) (by decide +kernel) rfl ?_
  exact jlt_283_15 d hd Q a0 ha0   Q x1 hx1 0 (by decide) s2 _ (by exact (ev_l1 (ev_l1 (by rfl) (by decide) (by decide)) (by decide) (by decide))) (by exact (ev_l1 (ev_lk_st1 (by rfl) (by decide) rfl) (by decide) (by decide))) (by exact (ev_lk_st1 ev_lk_st1_self (by decide) rfl)) (by exact ev_lk_st1_self)
/-- MendBenchModel.isShut(I)Z -/
def jm_284 (Q : Nat) (a0 : Int) (S : ev_St) : Option ((Int) × ev_St) := ev_if ((0 : Int) ≤ a0 ∧ a0 < (ev_aln 625 : Int)) (ev_b (S.1 625 (Int.toNat a0)) fun x1 => if x1 = 11 then (some (1, S)) else (ev_if ((0 : Int) ≤ a0 ∧ a0 < (ev_aln 625 : Int)) (ev_b (S.1 625 (Int.toNat a0)) fun x3 => if x3 = 12 then (some (1, S)) else (ev_if ((0 : Int) ≤ a0 ∧ a0 < (ev_aln 625 : Int)) (ev_b (S.1 625 (Int.toNat a0)) fun x5 => if x5 = 10 then (some (1, S)) else (ev_if ((0 : Int) ≤ a0 ∧ a0 < (ev_aln 630 : Int)) (ev_b (S.1 630 (Int.toNat a0)) fun x7 => if x7 ≠ 2 then (some (0, S)) else (some (1, S)))))))))
theorem jt_284 (d : Nat) (hd : 1 ≤ d) (Q : Nat) (a0 : Int) (ha0 : ev_rng a0) (S : ev_St) (x : Int) (S' : ev_St) (hJ : jm_284 Q a0 S = some (x, S')) : ev_Ref d 284 [.ref 621, .int (Int32.ofInt a0)] S (ev_eI x) S' (ev_bl x) := by
  obtain ⟨d, rfl⟩ : ∃ e, d = e + 1 := ⟨d - 1, by omega⟩
  refine ev_ref_of (P := ev_bl) (lv := [(0, .ref 621), (1, .int (Int32.ofInt a0))]) (by decide +kernel) (by (try simp only [ev_sum, ev_nv_cat]); first | done | rfl) (by (try simp only [lv_args, ev_nv_cat]); first | done | rfl) ?_ x S' hJ
  unfold jm_284
  refine ev_r_aload_n (pc := 0) (k := 0) (v := .ref 621) trivial (by decide +kernel) (by rfl) ?_
  refine ev_r_getC (pc := 1) (y := 19) (ci := 13) (f := 6) (fin := 1) (k' := 625) (by decide +kernel) (by decide +kernel) (by exact ev_ob_621) rfl rfl ?_
  refine ev_r_iload_n (pc := 4) (k := 1) (v := Int32.ofInt a0) (by decide +kernel) (by rfl) ?_
  refine ev_r_iald (pc := 5) ha0 (by decide +kernel) (by exact ev_ab_625) ?_
  intro x1 hx1
  refine ev_r_bipush (pc := 6) (k := 11) (by decide +kernel) (by decide +kernel) ?_
  refine ev_r_icmp (pc := 8) (q := .eq) (o := 35) (t := 43) (c := x1 = 11) (by decide +kernel) (ev_k_eq hx1 (by decide)) (by decide +kernel) ?_ ?_
  · intro c2
    refine ev_r_iconst (pc := 43) (k := 1) (by decide +kernel) ?_
    refine ev_r_goto (pc := 44) (o := 4) (t := 48) (by decide +kernel) (by decide +kernel) ?_
    exact ev_r_ireturn (pc := 48) (x := 1) (v := Int32.ofInt 1) (ty := .boolean) (by decide : ev_bl 1) (by decide +kernel) (by decide +kernel) (ev_ret_bl (by decide : ev_bl 1)) rfl
  · intro c2
    refine ev_r_aload_n (pc := 11) (k := 0) (v := .ref 621) trivial (by decide +kernel) (by rfl) ?_
    refine ev_r_getC (pc := 12) (y := 19) (ci := 13) (f := 6) (fin := 1) (k' := 625) (by decide +kernel) (by decide +kernel) (by exact ev_ob_621) rfl rfl ?_
    refine ev_r_iload_n (pc := 15) (k := 1) (v := Int32.ofInt a0) (by decide +kernel) (by rfl) ?_
    refine ev_r_iald (pc := 16) ha0 (by decide +kernel) (by exact ev_ab_625) ?_
    intro x3 hx3
    refine ev_r_bipush (pc := 17) (k := 12) (by decide +kernel) (by decide +kernel) ?_
    refine ev_r_icmp (pc := 19) (q := .eq) (o := 24) (t := 43) (c := x3 = 12) (by decide +kernel) (ev_k_eq hx3 (by decide)) (by decide +kernel) ?_ ?_
    · intro c4
      refine ev_r_iconst (pc := 43) (k := 1) (by decide +kernel) ?_
      refine ev_r_goto (pc := 44) (o := 4) (t := 48) (by decide +kernel) (by decide +kernel) ?_
      exact ev_r_ireturn (pc := 48) (x := 1) (v := Int32.ofInt 1) (ty := .boolean) (by decide : ev_bl 1) (by decide +kernel) (by decide +kernel) (ev_ret_bl (by decide : ev_bl 1)) rfl
    · intro c4
      refine ev_r_aload_n (pc := 22) (k := 0) (v := .ref 621) trivial (by decide +kernel) (by rfl) ?_
      refine ev_r_getC (pc := 23) (y := 19) (ci := 13) (f := 6) (fin := 1) (k' := 625) (by decide +kernel) (by decide +kernel) (by exact ev_ob_621) rfl rfl ?_
      refine ev_r_iload_n (pc := 26) (k := 1) (v := Int32.ofInt a0) (by decide +kernel) (by rfl) ?_
      refine ev_r_iald (pc := 27) ha0 (by decide +kernel) (by exact ev_ab_625) ?_
      intro x5 hx5
      refine ev_r_bipush (pc := 28) (k := 10) (by decide +kernel) (by decide +kernel) ?_
      refine ev_r_icmp (pc := 30) (q := .eq) (o := 13) (t := 43) (c := x5 = 10) (by decide +kernel) (ev_k_eq hx5 (by decide)) (by decide +kernel) ?_ ?_
      · intro c6
        refine ev_r_iconst (pc := 43) (k := 1) (by decide +kernel) ?_
        refine ev_r_goto (pc := 44) (o := 4) (t := 48) (by decide +kernel) (by decide +kernel) ?_
        exact ev_r_ireturn (pc := 48) (x := 1) (v := Int32.ofInt 1) (ty := .boolean) (by decide : ev_bl 1) (by decide +kernel) (by decide +kernel) (ev_ret_bl (by decide : ev_bl 1)) rfl
      · intro c6
        refine ev_r_aload_n (pc := 33) (k := 0) (v := .ref 621) trivial (by decide +kernel) (by rfl) ?_
        refine ev_r_getC (pc := 34) (y := 34) (ci := 13) (f := 11) (fin := 1) (k' := 630) (by decide +kernel) (by decide +kernel) (by exact ev_ob_621) rfl rfl ?_
        refine ev_r_iload_n (pc := 37) (k := 1) (v := Int32.ofInt a0) (by decide +kernel) (by rfl) ?_
        refine ev_r_iald (pc := 38) ha0 (by decide +kernel) (by exact ev_ab_630) ?_
        intro x7 hx7
        refine ev_r_iconst (pc := 39) (k := 2) (by decide +kernel) ?_
        refine ev_r_icmp (pc := 40) (q := .ne) (o := 7) (t := 47) (c := x7 ≠ 2) (by decide +kernel) (ev_k_ne hx7 (by decide)) (by decide +kernel) ?_ ?_
        · intro c8
          refine ev_r_iconst (pc := 47) (k := 0) (by decide +kernel) ?_
          exact ev_r_ireturn (pc := 48) (x := 0) (v := Int32.ofInt 0) (ty := .boolean) (by decide : ev_bl 0) (by decide +kernel) (by decide +kernel) (ev_ret_bl (by decide : ev_bl 0)) rfl
        · intro c8
          refine ev_r_iconst (pc := 43) (k := 1) (by decide +kernel) ?_
          refine ev_r_goto (pc := 44) (o := 4) (t := 48) (by decide +kernel) (by decide +kernel) ?_
          exact ev_r_ireturn (pc := 48) (x := 1) (v := Int32.ofInt 1) (ty := .boolean) (by decide : ev_bl 1) (by decide +kernel) (by decide +kernel) (ev_ret_bl (by decide : ev_bl 1)) rfl
def jb_286_10 (Q : Nat) (a0 : Int)  (K10 : Int → Int → ev_St → Option ((Int) × ev_St)) (x2 : Int) (x3 : Int) (s9 : ev_St) : Option ((Int) × ev_St) := if x3 = (-1) then (ev_if (ev_bl x2) (some (x2, s9))) else (ev_jn (fun (x12 : Int) (s17 : ev_St) => ev_if ((0 : Int) ≤ x3 ∧ x3 < (ev_aln 659 : Int)) (ev_b (s17.1 659 (Int.toNat x3)) fun x18 => K10 x12 x18 s17)) fun K40 => ev_jn (fun  (s23 : ev_St) => K40 0 s23) fun K39 => if x2 = 0 then (K39  s9) else (ev_ck (320 * a0) fun x25 => ev_ck (x25 + x3) fun x26 => ev_bd (jm_284 Q x26 s9) fun x28 s27 => if x28 ≠ 0 then (K39  s27) else (K40 1 s27)))
def jl_286_10 (Q : Nat) (a0 : Int)  : Nat → Int → Int → ev_St → Option ((Int) × ev_St)
  | 0 => fun _ _ _ => none
  | q + 1 => jb_286_10 Q a0  (jl_286_10 Q a0  q)
theorem jbt_286_10 (d : Nat) (hd : 2 ≤ d + 1) (Q : Nat) (a0 : Int) (ha0 : ev_rng a0)   (K10 : Int → Int → ev_St → Option ((Int) × ev_St)) (hK10 : ∀ (x2 : Int) (hx2 : ev_rng x2), ∀ (x3 : Int) (hx3 : ev_rng x3), ∀ (s9 : ev_St) (w4 : List (Nat × Value)), ev_lk w4 0 = some (.ref 621) → ev_lk w4 1 = some (.int (Int32.ofInt a0)) → ev_lk w4 3 = some (.int (Int32.ofInt x2)) → ev_lk w4 4 = some (.int (Int32.ofInt x3)) → ev_w none (ev_Mof 286) d 10 w4 [] s9 (K10 x2 x3 s9) ev_eI ev_bl) : ∀ (x2 : Int) (hx2 : ev_rng x2), ∀ (x3 : Int) (hx3 : ev_rng x3), ∀ (s9 : ev_St) (w4 : List (Nat × Value)), ev_lk w4 0 = some (.ref 621) → ev_lk w4 1 = some (.int (Int32.ofInt a0)) → ev_lk w4 3 = some (.int (Int32.ofInt x2)) → ev_lk w4 4 = some (.int (Int32.ofInt x3)) → ev_w none (ev_Mof 286) d 10 w4 [] s9 (jb_286_10 Q a0  K10 x2 x3 s9) ev_eI ev_bl := by
  intro x2 hx2 x3 hx3 s9 w4 e5 e6 e7 e8
  unfold jb_286_10
  refine ev_r_iload (pc := 10) (k := 4) (v := Int32.ofInt x3) (by decide +kernel) (by exact e8) ?_
  refine ev_r_iconst (pc := 12) (k := -1) (by decide +kernel) ?_
  refine ev_r_icmp (pc := 13) (q := .eq) (o := 40) (t := 53) (c := x3 = (-1)) (by decide +kernel) (ev_k_eq hx3 (by decide)) (by decide +kernel) ?_ ?_
  · intro c10
    refine ev_r_iload_n (pc := 53) (k := 3) (v := Int32.ofInt x2) (by decide +kernel) (by exact e7) ?_
    refine ev_r_chk ?_
    intro c11
    exact ev_r_ireturn (pc := 54) (x := x2) (v := Int32.ofInt x2) (ty := .boolean) c11 (by decide +kernel) (by decide +kernel) (ev_ret_bl c11) rfl
  · intro c10
    refine ev_r_iload_n (pc := 16) (k := 3) (v := Int32.ofInt x2) (by decide +kernel) (by exact e7) ?_
    refine ev_r_jn (Q := fun K => ∀ (x12 : Int) (hx12 : ev_rng x12), ∀ (s17 : ev_St) (w13 : List (Nat × Value)), ev_lk w13 0 = some (.ref 621) → ev_lk w13 1 = some (.int (Int32.ofInt a0)) → ev_lk w13 4 = some (.int (Int32.ofInt x3)) → ev_w none (ev_Mof 286) d 40 w13 [.int (Int32.ofInt x12)] s17 (K x12 s17) ev_eI ev_bl) ?_ ?_
    · intro x12 hx12 s17 w13 e14 e15 e16
      refine ev_r_istore_n (pc := 40) (k := 3) (by decide +kernel) (by decide +kernel) rfl ?_
      refine ev_r_aload_n (pc := 41) (k := 0) (v := .ref 621) trivial (by decide +kernel) (by exact (ev_l1 e14 (by decide) (by decide))) ?_
      refine ev_r_getC (pc := 42) (y := 123) (ci := 13) (f := 51) (fin := 1) (k' := 659) (by decide +kernel) (by decide +kernel) (by exact ev_ob_621) rfl rfl ?_
      refine ev_r_iload (pc := 45) (k := 4) (v := Int32.ofInt x3) (by decide +kernel) (by exact (ev_l1 e16 (by decide) (by decide))) ?_
      refine ev_r_iald (pc := 47) hx3 (by decide +kernel) (by exact ev_ab_659) ?_
      intro x18 hx18
      refine ev_r_istore (pc := 48) (k := 4) (by decide +kernel) (by decide +kernel) rfl ?_
      refine ev_r_goto (pc := 50) (o := (-40)) (t := 10) (by decide +kernel) (by decide +kernel) ?_
      exact hK10 x12 hx12 x18 hx18 s17 _ (by exact (ev_l1 (ev_l1 e14 (by decide) (by decide)) (by decide) (by decide))) (by exact (ev_l1 (ev_l1 e15 (by decide) (by decide)) (by decide) (by decide))) (by exact (ev_lk_st1 ev_lk_st1_self (by decide) rfl)) (by exact ev_lk_st1_self)
    · intro K40 hK40
      refine ev_r_jn (Q := fun K => ∀ (s23 : ev_St) (w19 : List (Nat × Value)), ev_lk w19 0 = some (.ref 621) → ev_lk w19 1 = some (.int (Int32.ofInt a0)) → ev_lk w19 4 = some (.int (Int32.ofInt x3)) → ev_w none (ev_Mof 286) d 39 w19 [] s23 (K  s23) ev_eI ev_bl) ?_ ?_
      · intro  s23 w19 e20 e21 e22
        refine ev_r_iconst (pc := 39) (k := 0) (by decide +kernel) ?_
        exact hK40 0 (by decide) s23 _ (by exact e20) (by exact e21) (by exact e22)
      · intro K39 hK39
        refine ev_r_if (pc := 17) (q := .eq) (o := 22) (t := 39) (c := x2 = 0) (by decide +kernel) (ev_k_eq hx2 ev_rng0) (by decide +kernel) ?_ ?_
        · intro c24
          exact hK39  s9 _ (by exact e5) (by exact e6) (by exact e8)
        · intro c24
          refine ev_r_aload_n (pc := 20) (k := 0) (v := .ref 621) trivial (by decide +kernel) (by exact e5) ?_
          refine ev_r_sipush (pc := 21) (k := 320) (by decide +kernel) (by decide +kernel) ?_
          refine ev_r_iload_n (pc := 24) (k := 1) (v := Int32.ofInt a0) (by decide +kernel) (by exact e6) ?_
          refine ev_r_imul (pc := 25) (by decide +kernel) ?_
          intro x25 hx25
          refine ev_r_iload (pc := 26) (k := 4) (v := Int32.ofInt x3) (by decide +kernel) (by exact e8) ?_
          refine ev_r_iadd (pc := 28) (by decide +kernel) ?_
          intro x26 hx26
          refine ev_r_virt (pc := 29) (y := 552) (mi := 284) (na := 1) (k := 621) (as := [.int (Int32.ofInt x26)]) (rest := []) (encc := ev_oI) (Q := ev_bl) (fun x S1 h => jt_284 d (by omega) Q x26 hx26 s9 x S1 h) (by exact ev_ob_621) (by decide +kernel) (by decide +kernel) (by decide +kernel) (by decide +kernel) rfl (by (try simp only [ev_sum, ev_nv_cat]); first | done | rfl) ?_
          intro x28 s27 hx28
          replace hx28 := ev_bl_rng hx28
          show ev_w _ _ _ _ _ [.int (Int32.ofInt x28)] _ _ _ _
          refine ev_r_if (pc := 32) (q := .ne) (o := 7) (t := 39) (c := x28 ≠ 0) (by decide +kernel) (ev_k_ne hx28 ev_rng0) (by decide +kernel) ?_ ?_
          · intro c29
            exact hK39  s27 _ (by exact e5) (by exact e6) (by exact e8)
          · intro c29
            refine ev_r_iconst (pc := 35) (k := 1) (by decide +kernel) ?_
            refine ev_r_goto (pc := 36) (o := 4) (t := 40) (by decide +kernel) (by decide +kernel) ?_
            exact hK40 1 (by decide) s27 _ (by exact e5) (by exact e6) (by exact e8)
theorem jlt_286_10 (d : Nat) (hd : 2 ≤ d + 1) (Q : Nat) (a0 : Int) (ha0 : ev_rng a0)   : ∀ q : Nat, ∀ (x2 : Int) (hx2 : ev_rng x2), ∀ (x3 : Int) (hx3 : ev_rng x3), ∀ (s9 : ev_St) (w4 : List (Nat × Value)), ev_lk w4 0 = some (.ref 621) → ev_lk w4 1 = some (.int (Int32.ofInt a0)) → ev_lk w4 3 = some (.int (Int32.ofInt x2)) → ev_lk w4 4 = some (.int (Int32.ofInt x3)) → ev_w none (ev_Mof 286) d 10 w4 [] s9 (jl_286_10 Q a0  q x2 x3 s9) ev_eI ev_bl := by
  intro q
  induction q with
  | zero =>
    intro x2 hx2 x3 hx3 s9 w4 e5 e6 e7 e8
    exact ev_w_none
  | succ q ih => exact jbt_286_10 d hd Q a0 ha0   _ ih
/-- MendBenchModel.isOpen(II)Z -/
def jm_286 (Q : Nat) (a0 : Int) (a1 : Int) (S : ev_St) : Option ((Int) × ev_St) := ev_if ((0 : Int) ≤ a1 ∧ a1 < (ev_aln 659 : Int)) (ev_b (S.1 659 (Int.toNat a1)) fun x1 => jl_286_10 Q a0  Q 1 x1 S)
theorem jt_286 (d : Nat) (hd : 2 ≤ d) (Q : Nat) (a0 : Int) (a1 : Int) (ha0 : ev_rng a0) (ha1 : ev_rng a1) (S : ev_St) (x : Int) (S' : ev_St) (hJ : jm_286 Q a0 a1 S = some (x, S')) : ev_Ref d 286 [.ref 621, .int (Int32.ofInt a0), .int (Int32.ofInt a1)] S (ev_eI x) S' (ev_bl x) := by
  obtain ⟨d, rfl⟩ : ∃ e, d = e + 1 := ⟨d - 1, by omega⟩
  refine ev_ref_of (P := ev_bl) (lv := [(0, .ref 621), (1, .int (Int32.ofInt a0)), (2, .int (Int32.ofInt a1))]) (by decide +kernel) (by (try simp only [ev_sum, ev_nv_cat]); first | done | rfl) (by (try simp only [lv_args, ev_nv_cat]); first | done | rfl) ?_ x S' hJ
  unfold jm_286
  refine ev_r_iconst (pc := 0) (k := 1) (by decide +kernel) ?_
  refine ev_r_istore_n (pc := 1) (k := 3) (by decide +kernel) (by decide +kernel) rfl ?_
  refine ev_r_aload_n (pc := 2) (k := 0) (v := .ref 621) trivial (by decide +kernel) (by exact (ev_l1 (by rfl) (by decide) (by decide))) ?_
  refine ev_r_getC (pc := 3) (y := 123) (ci := 13) (f := 51) (fin := 1) (k' := 659) (by decide +kernel) (by decide +kernel) (by exact ev_ob_621) rfl rfl ?_
  refine ev_r_iload_n (pc := 6) (k := 2) (v := Int32.ofInt a1) (by decide +kernel) (by exact (ev_lk_st1 (by rfl) (by decide) rfl)) ?_
  refine ev_r_iald (pc := 7) ha1 (by decide +kernel) (by exact ev_ab_659) ?_
  intro x1 hx1
  refine ev_r_istore (pc := 8) (k := 4) (by decide +kernel) (by decide +kernel) rfl ?_
  exact jlt_286_10 d hd Q a0 ha0   Q 1 (by decide) x1 hx1 S _ (by exact (ev_l1 (ev_l1 (by rfl) (by decide) (by decide)) (by decide) (by decide))) (by exact (ev_l1 (ev_l1 (by rfl) (by decide) (by decide)) (by decide) (by decide))) (by exact (ev_lk_st1 ev_lk_st1_self (by decide) rfl)) (by exact ev_lk_st1_self)
def jb_285_97 (Q : Nat) (a0 : Int) (x5 : Int) (x14 : Int) (x15 : Int) (x31 : Int) (K252 : Int → Int → Int → ev_St → Option ((Int) × ev_St)) (K97 : Int → Int → ev_St → Option ((Int) × ev_St)) (x117 : Int) (x118 : Int) (s128 : ev_St) : Option ((Int) × ev_St) := if x118 = (-1) then (K252 x117 x14 x31 s128) else (ev_jn (fun (x130 : Int) (s139 : ev_St) => ev_ck (x5 + x118) fun x140 => ev_if ((0 : Int) ≤ x140 ∧ x140 < (ev_aln 627 : Int)) (ev_b (s139.1 627 (Int.toNat x140)) fun x141 => K97 x130 x141 s139)) fun K132 => ev_jn (fun  (s150 : ev_St) => K132 0 s150) fun K131 => if x117 = 0 then (K131  s128) else (ev_jn (fun  (s160 : ev_St) => K132 1 s160) fun K127 => if x118 = x15 then (K127  s128) else (ev_ck (x5 + x118) fun x162 => ev_if ((0 : Int) ≤ x162 ∧ x162 < (ev_aln 641 : Int)) (ev_b (s128.1 641 (Int.toNat x162)) fun x163 => if x163 ≠ 0 then (K131  s128) else (K127  s128)))))
def jl_285_97 (Q : Nat) (a0 : Int) (x5 : Int) (x14 : Int) (x15 : Int) (x31 : Int) (K252 : Int → Int → Int → ev_St → Option ((Int) × ev_St)) : Nat → Int → Int → ev_St → Option ((Int) × ev_St)
  | 0 => fun _ _ _ => none
  | q + 1 => jb_285_97 Q a0 x5 x14 x15 x31 K252 (jl_285_97 Q a0 x5 x14 x15 x31 K252 q)
theorem jbt_285_97 (d : Nat) (hd : 3 ≤ d + 1) (Q : Nat) (a0 : Int) (x5 : Int) (x14 : Int) (x15 : Int) (x31 : Int) (ha0 : ev_rng a0) (hx5 : ev_rng x5) (hx14 : ev_rng x14) (hx15 : ev_rng x15) (hx31 : ev_rng x31) (K252 : Int → Int → Int → ev_St → Option ((Int) × ev_St)) (hK252 : ∀ (x34 : Int) (hx34 : ev_rng x34), ∀ (x35 : Int) (hx35 : ev_rng x35), ∀ (x36 : Int) (hx36 : ev_rng x36), ∀ (s44 : ev_St) (w37 : List (Nat × Value)), ev_lk w37 0 = some (.ref 621) → ev_lk w37 1 = some (.int (Int32.ofInt a0)) → ev_lk w37 3 = some (.int (Int32.ofInt x5)) → ev_lk w37 4 = some (.int (Int32.ofInt x34)) → ev_lk w37 5 = some (.int (Int32.ofInt x35)) → ev_lk w37 7 = some (.int (Int32.ofInt x36)) → ev_w none (ev_Mof 285) d 252 w37 [] s44 (K252 x34 x35 x36 s44) ev_eI ev_bl) (K97 : Int → Int → ev_St → Option ((Int) × ev_St)) (hK97 : ∀ (x117 : Int) (hx117 : ev_rng x117), ∀ (x118 : Int) (hx118 : ev_rng x118), ∀ (s128 : ev_St) (w119 : List (Nat × Value)), ev_lk w119 0 = some (.ref 621) → ev_lk w119 1 = some (.int (Int32.ofInt a0)) → ev_lk w119 3 = some (.int (Int32.ofInt x5)) → ev_lk w119 4 = some (.int (Int32.ofInt x117)) → ev_lk w119 5 = some (.int (Int32.ofInt x14)) → ev_lk w119 6 = some (.int (Int32.ofInt x15)) → ev_lk w119 7 = some (.int (Int32.ofInt x31)) → ev_lk w119 9 = some (.int (Int32.ofInt x118)) → ev_w none (ev_Mof 285) d 97 w119 [] s128 (K97 x117 x118 s128) ev_eI ev_bl) : ∀ (x117 : Int) (hx117 : ev_rng x117), ∀ (x118 : Int) (hx118 : ev_rng x118), ∀ (s128 : ev_St) (w119 : List (Nat × Value)), ev_lk w119 0 = some (.ref 621) → ev_lk w119 1 = some (.int (Int32.ofInt a0)) → ev_lk w119 3 = some (.int (Int32.ofInt x5)) → ev_lk w119 4 = some (.int (Int32.ofInt x117)) → ev_lk w119 5 = some (.int (Int32.ofInt x14)) → ev_lk w119 6 = some (.int (Int32.ofInt x15)) → ev_lk w119 7 = some (.int (Int32.ofInt x31)) → ev_lk w119 9 = some (.int (Int32.ofInt x118)) → ev_w none (ev_Mof 285) d 97 w119 [] s128 (jb_285_97 Q a0 x5 x14 x15 x31 K252 K97 x117 x118 s128) ev_eI ev_bl := by
  intro x117 hx117 x118 hx118 s128 w119 e120 e121 e122 e123 e124 e125 e126 e127
  unfold jb_285_97
  refine ev_r_iload (pc := 97) (k := 9) (v := Int32.ofInt x118) (by decide +kernel) (by exact e127) ?_
  refine ev_r_iconst (pc := 99) (k := -1) (by decide +kernel) ?_
  refine ev_r_icmp (pc := 100) (q := .eq) (o := 48) (t := 148) (c := x118 = (-1)) (by decide +kernel) (ev_k_eq hx118 (by decide)) (by decide +kernel) ?_ ?_
  · intro c129
    refine ev_r_goto (pc := 148) (o := 104) (t := 252) (by decide +kernel) (by decide +kernel) ?_
    exact hK252 x117 hx117 x14 hx14 x31 hx31 s128 _ (by exact e120) (by exact e121) (by exact e122) (by exact e123) (by exact e124) (by exact e126)
  · intro c129
    refine ev_r_iload (pc := 103) (k := 4) (v := Int32.ofInt x117) (by decide +kernel) (by exact e123) ?_
    refine ev_r_jn (Q := fun K => ∀ (x130 : Int) (hx130 : ev_rng x130), ∀ (s139 : ev_St) (w131 : List (Nat × Value)), ev_lk w131 0 = some (.ref 621) → ev_lk w131 1 = some (.int (Int32.ofInt a0)) → ev_lk w131 3 = some (.int (Int32.ofInt x5)) → ev_lk w131 5 = some (.int (Int32.ofInt x14)) → ev_lk w131 6 = some (.int (Int32.ofInt x15)) → ev_lk w131 7 = some (.int (Int32.ofInt x31)) → ev_lk w131 9 = some (.int (Int32.ofInt x118)) → ev_w none (ev_Mof 285) d 132 w131 [.int (Int32.ofInt x130)] s139 (K x130 s139) ev_eI ev_bl) ?_ ?_
    · intro x130 hx130 s139 w131 e132 e133 e134 e135 e136 e137 e138
      refine ev_r_istore (pc := 132) (k := 4) (by decide +kernel) (by decide +kernel) rfl ?_
      refine ev_r_aload_n (pc := 134) (k := 0) (v := .ref 621) trivial (by decide +kernel) (by exact (ev_l1 e132 (by decide) (by decide))) ?_
      refine ev_r_getC (pc := 135) (y := 25) (ci := 13) (f := 8) (fin := 1) (k' := 627) (by decide +kernel) (by decide +kernel) (by exact ev_ob_621) rfl rfl ?_
      refine ev_r_iload_n (pc := 138) (k := 3) (v := Int32.ofInt x5) (by decide +kernel) (by exact (ev_lk_st1 e134 (by decide) rfl)) ?_
      refine ev_r_iload (pc := 139) (k := 9) (v := Int32.ofInt x118) (by decide +kernel) (by exact (ev_l1 e138 (by decide) (by decide))) ?_
      refine ev_r_iadd (pc := 141) (by decide +kernel) ?_
      intro x140 hx140
      refine ev_r_iald (pc := 142) hx140 (by decide +kernel) (by exact ev_ab_627) ?_
      intro x141 hx141
      refine ev_r_istore (pc := 143) (k := 9) (by decide +kernel) (by decide +kernel) rfl ?_
      refine ev_r_goto (pc := 145) (o := (-48)) (t := 97) (by decide +kernel) (by decide +kernel) ?_
      exact hK97 x130 hx130 x141 hx141 s139 _ (by exact (ev_l1 (ev_l1 e132 (by decide) (by decide)) (by decide) (by decide))) (by exact (ev_l1 (ev_l1 e133 (by decide) (by decide)) (by decide) (by decide))) (by exact (ev_l1 (ev_lk_st1 e134 (by decide) rfl) (by decide) (by decide))) (by exact (ev_l1 ev_lk_st1_self (by decide) (by decide))) (by exact (ev_l1 (ev_l1 e135 (by decide) (by decide)) (by decide) (by decide))) (by exact (ev_l1 (ev_l1 e136 (by decide) (by decide)) (by decide) (by decide))) (by exact (ev_l1 (ev_l1 e137 (by decide) (by decide)) (by decide) (by decide))) (by exact ev_lk_st1_self)
    · intro K132 hK132
      refine ev_r_jn (Q := fun K => ∀ (s150 : ev_St) (w142 : List (Nat × Value)), ev_lk w142 0 = some (.ref 621) → ev_lk w142 1 = some (.int (Int32.ofInt a0)) → ev_lk w142 3 = some (.int (Int32.ofInt x5)) → ev_lk w142 5 = some (.int (Int32.ofInt x14)) → ev_lk w142 6 = some (.int (Int32.ofInt x15)) → ev_lk w142 7 = some (.int (Int32.ofInt x31)) → ev_lk w142 9 = some (.int (Int32.ofInt x118)) → ev_w none (ev_Mof 285) d 131 w142 [] s150 (K  s150) ev_eI ev_bl) ?_ ?_
      · intro  s150 w142 e143 e144 e145 e146 e147 e148 e149
        refine ev_r_iconst (pc := 131) (k := 0) (by decide +kernel) ?_
        exact hK132 0 (by decide) s150 _ (by exact e143) (by exact e144) (by exact e145) (by exact e146) (by exact e147) (by exact e148) (by exact e149)
      · intro K131 hK131
        refine ev_r_if (pc := 105) (q := .eq) (o := 26) (t := 131) (c := x117 = 0) (by decide +kernel) (ev_k_eq hx117 ev_rng0) (by decide +kernel) ?_ ?_
        · intro c151
          exact hK131  s128 _ (by exact e120) (by exact e121) (by exact e122) (by exact e124) (by exact e125) (by exact e126) (by exact e127)
        · intro c151
          refine ev_r_iload (pc := 108) (k := 9) (v := Int32.ofInt x118) (by decide +kernel) (by exact e127) ?_
          refine ev_r_iload (pc := 110) (k := 6) (v := Int32.ofInt x15) (by decide +kernel) (by exact e125) ?_
          refine ev_r_jn (Q := fun K => ∀ (s160 : ev_St) (w152 : List (Nat × Value)), ev_lk w152 0 = some (.ref 621) → ev_lk w152 1 = some (.int (Int32.ofInt a0)) → ev_lk w152 3 = some (.int (Int32.ofInt x5)) → ev_lk w152 5 = some (.int (Int32.ofInt x14)) → ev_lk w152 6 = some (.int (Int32.ofInt x15)) → ev_lk w152 7 = some (.int (Int32.ofInt x31)) → ev_lk w152 9 = some (.int (Int32.ofInt x118)) → ev_w none (ev_Mof 285) d 127 w152 [] s160 (K  s160) ev_eI ev_bl) ?_ ?_
          · intro  s160 w152 e153 e154 e155 e156 e157 e158 e159
            refine ev_r_iconst (pc := 127) (k := 1) (by decide +kernel) ?_
            refine ev_r_goto (pc := 128) (o := 4) (t := 132) (by decide +kernel) (by decide +kernel) ?_
            exact hK132 1 (by decide) s160 _ (by exact e153) (by exact e154) (by exact e155) (by exact e156) (by exact e157) (by exact e158) (by exact e159)
          · intro K127 hK127
            refine ev_r_icmp (pc := 112) (q := .eq) (o := 15) (t := 127) (c := x118 = x15) (by decide +kernel) (ev_k_eq hx118 hx15) (by decide +kernel) ?_ ?_
            · intro c161
              exact hK127  s128 _ (by exact e120) (by exact e121) (by exact e122) (by exact e124) (by exact e125) (by exact e126) (by exact e127)
            · intro c161
              refine ev_r_aload_n (pc := 115) (k := 0) (v := .ref 621) trivial (by decide +kernel) (by exact e120) ?_
              refine ev_r_getC (pc := 116) (y := 68) (ci := 13) (f := 22) (fin := 1) (k' := 641) (by decide +kernel) (by decide +kernel) (by exact ev_ob_621) rfl rfl ?_
              refine ev_r_iload_n (pc := 119) (k := 3) (v := Int32.ofInt x5) (by decide +kernel) (by exact e122) ?_
              refine ev_r_iload (pc := 120) (k := 9) (v := Int32.ofInt x118) (by decide +kernel) (by exact e127) ?_
              refine ev_r_iadd (pc := 122) (by decide +kernel) ?_
              intro x162 hx162
              refine ev_r_iald (pc := 123) hx162 (by decide +kernel) (by exact ev_ab_641) ?_
              intro x163 hx163
              refine ev_r_if (pc := 124) (q := .ne) (o := 7) (t := 131) (c := x163 ≠ 0) (by decide +kernel) (ev_k_ne hx163 ev_rng0) (by decide +kernel) ?_ ?_
              · intro c164
                exact hK131  s128 _ (by exact e120) (by exact e121) (by exact e122) (by exact e124) (by exact e125) (by exact e126) (by exact e127)
              · intro c164
                exact hK127  s128 _ (by exact e120) (by exact e121) (by exact e122) (by exact e124) (by exact e125) (by exact e126) (by exact e127)
theorem jlt_285_97 (d : Nat) (hd : 3 ≤ d + 1) (Q : Nat) (a0 : Int) (x5 : Int) (x14 : Int) (x15 : Int) (x31 : Int) (ha0 : ev_rng a0) (hx5 : ev_rng x5) (hx14 : ev_rng x14) (hx15 : ev_rng x15) (hx31 : ev_rng x31) (K252 : Int → Int → Int → ev_St → Option ((Int) × ev_St)) (hK252 : ∀ (x34 : Int) (hx34 : ev_rng x34), ∀ (x35 : Int) (hx35 : ev_rng x35), ∀ (x36 : Int) (hx36 : ev_rng x36), ∀ (s44 : ev_St) (w37 : List (Nat × Value)), ev_lk w37 0 = some (.ref 621) → ev_lk w37 1 = some (.int (Int32.ofInt a0)) → ev_lk w37 3 = some (.int (Int32.ofInt x5)) → ev_lk w37 4 = some (.int (Int32.ofInt x34)) → ev_lk w37 5 = some (.int (Int32.ofInt x35)) → ev_lk w37 7 = some (.int (Int32.ofInt x36)) → ev_w none (ev_Mof 285) d 252 w37 [] s44 (K252 x34 x35 x36 s44) ev_eI ev_bl) : ∀ q : Nat, ∀ (x117 : Int) (hx117 : ev_rng x117), ∀ (x118 : Int) (hx118 : ev_rng x118), ∀ (s128 : ev_St) (w119 : List (Nat × Value)), ev_lk w119 0 = some (.ref 621) → ev_lk w119 1 = some (.int (Int32.ofInt a0)) → ev_lk w119 3 = some (.int (Int32.ofInt x5)) → ev_lk w119 4 = some (.int (Int32.ofInt x117)) → ev_lk w119 5 = some (.int (Int32.ofInt x14)) → ev_lk w119 6 = some (.int (Int32.ofInt x15)) → ev_lk w119 7 = some (.int (Int32.ofInt x31)) → ev_lk w119 9 = some (.int (Int32.ofInt x118)) → ev_w none (ev_Mof 285) d 97 w119 [] s128 (jl_285_97 Q a0 x5 x14 x15 x31 K252 q x117 x118 s128) ev_eI ev_bl := by
  intro q
  induction q with
  | zero =>
    intro x117 hx117 x118 hx118 s128 w119 e120 e121 e122 e123 e124 e125 e126 e127
    exact ev_w_none
  | succ q ih => exact jbt_285_97 d hd Q a0 x5 x14 x15 x31 ha0 hx5 hx14 hx15 hx31 K252 hK252 _ ih
def jb_285_40 (Q : Nat) (a0 : Int) (x5 : Int)  (K40 : Int → Int → Int → ev_St → Option ((Int) × ev_St)) (x13 : Int) (x14 : Int) (x15 : Int) (s23 : ev_St) : Option ((Int) × ev_St) := if x13 = 0 then (ev_if (ev_bl x14) (some (x14, s23))) else (if x14 ≠ 0 then (ev_if (ev_bl x14) (some (x14, s23))) else (ev_if ((0 : Int) ≤ x15 ∧ x15 < (ev_aln 659 : Int)) (ev_b (s23.1 659 (Int.toNat x15)) fun x28 => if x28 = (-1) then (ev_if (ev_bl x14) (some (x14, s23))) else (ev_if ((0 : Int) ≤ x15 ∧ x15 < (ev_aln 659 : Int)) (ev_b (s23.1 659 (Int.toNat x15)) fun x31 => ev_ck (x5 + x31) fun x32 => ev_if ((0 : Int) ≤ x32 ∧ x32 < (ev_aln 625 : Int)) (ev_b (s23.1 625 (Int.toNat x32)) fun x33 => ev_jn (fun (x34 : Int) (x35 : Int) (x36 : Int) (s44 : ev_St) => K40 x34 x35 x36 s44) fun K252 => if x33 ≠ 18 then (ev_bd (jm_284 Q x32 s23) fun x47 s46 => ev_jn (fun (x48 : Int) (s55 : ev_St) => ev_jn (fun (x56 : Int) (x57 : Int) (s65 : ev_St) => ev_jn (fun (x66 : Int) (x67 : Int) (s74 : ev_St) => K252 x67 x66 x31 s74) fun K250 => ev_jn (fun (x75 : Int) (s82 : ev_St) => K250 x75 0 s82) fun K249 => if x56 = 0 then (K249 x57 s65) else (ev_if ((0 : Int) ≤ x32 ∧ x32 < (ev_aln 630 : Int)) (ev_b (s65.1 630 (Int.toNat x32)) fun x84 => ev_jn (fun  (s91 : ev_St) => K250 x57 1 s91) fun K245 => if x84 = (-1) then (K245  s65) else (ev_if ((0 : Int) ≤ x32 ∧ x32 < (ev_aln 632 : Int)) (ev_b (s65.1 632 (Int.toNat x32)) fun x93 => if x93 = 0 then (K249 x57 s65) else (ev_if ((0 : Int) ≤ x32 ∧ x32 < (ev_aln 631 : Int)) (ev_b (s65.1 631 (Int.toNat x32)) fun x95 => if x95 < 2 then (K245  s65) else (ev_if ((0 : Int) ≤ x32 ∧ x32 < (ev_aln 640 : Int)) (ev_b (s65.1 640 (Int.toNat x32)) fun x97 => if x97 ≠ 0 then (K249 x57 s65) else (K245  s65)))))))))) fun K196 => ev_jn (fun (x99 : Int) (s107 : ev_St) => K196 x99 0 s107) fun K195 => if x48 = 0 then (K195 x48 s55) else (ev_bd (jm_282 Q x32 s55) fun x110 s109 => if x110 = 0 then (K195 x48 s109) else (ev_bd (jm_286 Q a0 x31 s109) fun x113 s112 => if x113 = 0 then (K195 x48 s112) else (K196 x48 1 s112)))) fun K165 => if x47 ≠ 0 then (K165 0 s46) else (K165 1 s46)) else (ev_if ((0 : Int) ≤ x32 ∧ x32 < (ev_aln 626 : Int)) (ev_b (s23.1 626 (Int.toNat x32)) fun x116 => jl_285_97 Q a0 x5 x14 x15 x31 K252 Q x13 x116 s23))))))))
def jl_285_40 (Q : Nat) (a0 : Int) (x5 : Int)  : Nat → Int → Int → Int → ev_St → Option ((Int) × ev_St)
  | 0 => fun _ _ _ _ => none
  | q + 1 => jb_285_40 Q a0 x5  (jl_285_40 Q a0 x5  q)
theorem jbt_285_40 (d : Nat) (hd : 3 ≤ d + 1) (Q : Nat) (a0 : Int) (x5 : Int) (ha0 : ev_rng a0) (hx5 : ev_rng x5)   (K40 : Int → Int → Int → ev_St → Option ((Int) × ev_St)) (hK40 : ∀ (x13 : Int) (hx13 : ev_rng x13), ∀ (x14 : Int) (hx14 : ev_rng x14), ∀ (x15 : Int) (hx15 : ev_rng x15), ∀ (s23 : ev_St) (w16 : List (Nat × Value)), ev_lk w16 0 = some (.ref 621) → ev_lk w16 1 = some (.int (Int32.ofInt a0)) → ev_lk w16 3 = some (.int (Int32.ofInt x5)) → ev_lk w16 4 = some (.int (Int32.ofInt x13)) → ev_lk w16 5 = some (.int (Int32.ofInt x14)) → ev_lk w16 6 = some (.int (Int32.ofInt x15)) → ev_w none (ev_Mof 285) d 40 w16 [] s23 (K40 x13 x14 x15 s23) ev_eI ev_bl) : ∀ (x13 : Int) (hx13 : ev_rng x13), ∀ (x14 : Int) (hx14 : ev_rng x14), ∀ (x15 : Int) (hx15 : ev_rng x15), ∀ (s23 : ev_St) (w16 : List (Nat × Value)), ev_lk w16 0 = some (.ref 621) → ev_lk w16 1 = some (.int (Int32.ofInt a0)) → ev_lk w16 3 = some (.int (Int32.ofInt x5)) → ev_lk w16 4 = some (.int (Int32.ofInt x13)) → ev_lk w16 5 = some (.int (Int32.ofInt x14)) → ev_lk w16 6 = some (.int (Int32.ofInt x15)) → ev_w none (ev_Mof 285) d 40 w16 [] s23 (jb_285_40 Q a0 x5  K40 x13 x14 x15 s23) ev_eI ev_bl := by
  intro x13 hx13 x14 hx14 x15 hx15 s23 w16 e17 e18 e19 e20 e21 e22
  unfold jb_285_40
  refine ev_r_iload (pc := 40) (k := 4) (v := Int32.ofInt x13) (by decide +kernel) (by exact e20) ?_
  refine ev_r_if (pc := 42) (q := .eq) (o := 217) (t := 259) (c := x13 = 0) (by decide +kernel) (ev_k_eq hx13 ev_rng0) (by decide +kernel) ?_ ?_
  · intro c24
    refine ev_r_iload (pc := 259) (k := 5) (v := Int32.ofInt x14) (by decide +kernel) (by exact e21) ?_
    refine ev_r_chk ?_
    intro c25
    exact ev_r_ireturn (pc := 261) (x := x14) (v := Int32.ofInt x14) (ty := .boolean) c25 (by decide +kernel) (by decide +kernel) (ev_ret_bl c25) rfl
  · intro c24
    refine ev_r_iload (pc := 45) (k := 5) (v := Int32.ofInt x14) (by decide +kernel) (by exact e21) ?_
    refine ev_r_if (pc := 47) (q := .ne) (o := 212) (t := 259) (c := x14 ≠ 0) (by decide +kernel) (ev_k_ne hx14 ev_rng0) (by decide +kernel) ?_ ?_
    · intro c26
      refine ev_r_iload (pc := 259) (k := 5) (v := Int32.ofInt x14) (by decide +kernel) (by exact e21) ?_
      refine ev_r_chk ?_
      intro c27
      exact ev_r_ireturn (pc := 261) (x := x14) (v := Int32.ofInt x14) (ty := .boolean) c27 (by decide +kernel) (by decide +kernel) (ev_ret_bl c27) rfl
    · intro c26
      refine ev_r_aload_n (pc := 50) (k := 0) (v := .ref 621) trivial (by decide +kernel) (by exact e17) ?_
      refine ev_r_getC (pc := 51) (y := 123) (ci := 13) (f := 51) (fin := 1) (k' := 659) (by decide +kernel) (by decide +kernel) (by exact ev_ob_621) rfl rfl ?_
      refine ev_r_iload (pc := 54) (k := 6) (v := Int32.ofInt x15) (by decide +kernel) (by exact e22) ?_
      refine ev_r_iald (pc := 56) hx15 (by decide +kernel) (by exact ev_ab_659) ?_
      intro x28 hx28
      refine ev_r_iconst (pc := 57) (k := -1) (by decide +kernel) ?_
      refine ev_r_icmp (pc := 58) (q := .eq) (o := 201) (t := 259) (c := x28 = (-1)) (by decide +kernel) (ev_k_eq hx28 (by decide)) (by decide +kernel) ?_ ?_
      · intro c29
        refine ev_r_iload (pc := 259) (k := 5) (v := Int32.ofInt x14) (by decide +kernel) (by exact e21) ?_
        refine ev_r_chk ?_
        intro c30
        exact ev_r_ireturn (pc := 261) (x := x14) (v := Int32.ofInt x14) (ty := .boolean) c30 (by decide +kernel) (by decide +kernel) (ev_ret_bl c30) rfl
      · intro c29
        refine ev_r_aload_n (pc := 61) (k := 0) (v := .ref 621) trivial (by decide +kernel) (by exact e17) ?_
        refine ev_r_getC (pc := 62) (y := 123) (ci := 13) (f := 51) (fin := 1) (k' := 659) (by decide +kernel) (by decide +kernel) (by exact ev_ob_621) rfl rfl ?_
        refine ev_r_iload (pc := 65) (k := 6) (v := Int32.ofInt x15) (by decide +kernel) (by exact e22) ?_
        refine ev_r_iald (pc := 67) hx15 (by decide +kernel) (by exact ev_ab_659) ?_
        intro x31 hx31
        refine ev_r_istore (pc := 68) (k := 7) (by decide +kernel) (by decide +kernel) rfl ?_
        refine ev_r_iload_n (pc := 70) (k := 3) (v := Int32.ofInt x5) (by decide +kernel) (by exact (ev_l1 e19 (by decide) (by decide))) ?_
        refine ev_r_iload (pc := 71) (k := 7) (v := Int32.ofInt x31) (by decide +kernel) (by exact ev_lk_st1_self) ?_
        refine ev_r_iadd (pc := 73) (by decide +kernel) ?_
        intro x32 hx32
        refine ev_r_istore (pc := 74) (k := 8) (by decide +kernel) (by decide +kernel) rfl ?_
        refine ev_r_aload_n (pc := 76) (k := 0) (v := .ref 621) trivial (by decide +kernel) (by exact (ev_l1 (ev_l1 e17 (by decide) (by decide)) (by decide) (by decide))) ?_
        refine ev_r_getC (pc := 77) (y := 19) (ci := 13) (f := 6) (fin := 1) (k' := 625) (by decide +kernel) (by decide +kernel) (by exact ev_ob_621) rfl rfl ?_
        refine ev_r_iload (pc := 80) (k := 8) (v := Int32.ofInt x32) (by decide +kernel) (by exact ev_lk_st1_self) ?_
        refine ev_r_iald (pc := 82) hx32 (by decide +kernel) (by exact ev_ab_625) ?_
        intro x33 hx33
        refine ev_r_bipush (pc := 83) (k := 18) (by decide +kernel) (by decide +kernel) ?_
        refine ev_r_jn (Q := fun K => ∀ (x34 : Int) (hx34 : ev_rng x34), ∀ (x35 : Int) (hx35 : ev_rng x35), ∀ (x36 : Int) (hx36 : ev_rng x36), ∀ (s44 : ev_St) (w37 : List (Nat × Value)), ev_lk w37 0 = some (.ref 621) → ev_lk w37 1 = some (.int (Int32.ofInt a0)) → ev_lk w37 3 = some (.int (Int32.ofInt x5)) → ev_lk w37 4 = some (.int (Int32.ofInt x34)) → ev_lk w37 5 = some (.int (Int32.ofInt x35)) → ev_lk w37 7 = some (.int (Int32.ofInt x36)) → ev_w none (ev_Mof 285) d 252 w37 [] s44 (K x34 x35 x36 s44) ev_eI ev_bl) ?_ ?_
        · intro x34 hx34 x35 hx35 x36 hx36 s44 w37 e38 e39 e40 e41 e42 e43
          refine ev_r_iload (pc := 252) (k := 7) (v := Int32.ofInt x36) (by decide +kernel) (by exact e43) ?_
          refine ev_r_istore (pc := 254) (k := 6) (by decide +kernel) (by decide +kernel) rfl ?_
          refine ev_r_goto (pc := 256) (o := (-216)) (t := 40) (by decide +kernel) (by decide +kernel) ?_
          exact hK40 x34 hx34 x35 hx35 x36 hx36 s44 _ (by exact (ev_l1 e38 (by decide) (by decide))) (by exact (ev_l1 e39 (by decide) (by decide))) (by exact (ev_l1 e40 (by decide) (by decide))) (by exact (ev_l1 e41 (by decide) (by decide))) (by exact (ev_lk_st1 e42 (by decide) rfl)) (by exact ev_lk_st1_self)
        · intro K252 hK252
          refine ev_r_icmp (pc := 85) (q := .ne) (o := 66) (t := 151) (c := x33 ≠ 18) (by decide +kernel) (ev_k_ne hx33 (by decide)) (by decide +kernel) ?_ ?_
          · intro c45
            refine ev_r_aload_n (pc := 151) (k := 0) (v := .ref 621) trivial (by decide +kernel) (by exact (ev_l1 (ev_l1 e17 (by decide) (by decide)) (by decide) (by decide))) ?_
            refine ev_r_iload (pc := 152) (k := 8) (v := Int32.ofInt x32) (by decide +kernel) (by exact ev_lk_st1_self) ?_
            refine ev_r_virt (pc := 154) (y := 552) (mi := 284) (na := 1) (k := 621) (as := [.int (Int32.ofInt x32)]) (rest := []) (encc := ev_oI) (Q := ev_bl) (fun x S1 h => jt_284 d (by omega) Q x32 hx32 s23 x S1 h) (by exact ev_ob_621) (by decide +kernel) (by decide +kernel) (by decide +kernel) (by decide +kernel) rfl (by (try simp only [ev_sum, ev_nv_cat]); first | done | rfl) ?_
            intro x47 s46 hx47
            replace hx47 := ev_bl_rng hx47
            show ev_w _ _ _ _ _ [.int (Int32.ofInt x47)] _ _ _ _
            refine ev_r_jn (Q := fun K => ∀ (x48 : Int) (hx48 : ev_rng x48), ∀ (s55 : ev_St) (w49 : List (Nat × Value)), ev_lk w49 0 = some (.ref 621) → ev_lk w49 1 = some (.int (Int32.ofInt a0)) → ev_lk w49 3 = some (.int (Int32.ofInt x5)) → ev_lk w49 7 = some (.int (Int32.ofInt x31)) → ev_lk w49 8 = some (.int (Int32.ofInt x32)) → ev_w none (ev_Mof 285) d 165 w49 [.int (Int32.ofInt x48)] s55 (K x48 s55) ev_eI ev_bl) ?_ ?_
            · intro x48 hx48 s55 w49 e50 e51 e52 e53 e54
              refine ev_r_istore (pc := 165) (k := 4) (by decide +kernel) (by decide +kernel) rfl ?_
              refine ev_r_iload (pc := 167) (k := 4) (v := Int32.ofInt x48) (by decide +kernel) (by exact ev_lk_st1_self) ?_
              refine ev_r_jn (Q := fun K => ∀ (x56 : Int) (hx56 : ev_rng x56), ∀ (x57 : Int) (hx57 : ev_rng x57), ∀ (s65 : ev_St) (w58 : List (Nat × Value)), ev_lk w58 0 = some (.ref 621) → ev_lk w58 1 = some (.int (Int32.ofInt a0)) → ev_lk w58 3 = some (.int (Int32.ofInt x5)) → ev_lk w58 4 = some (.int (Int32.ofInt x56)) → ev_lk w58 7 = some (.int (Int32.ofInt x31)) → ev_lk w58 8 = some (.int (Int32.ofInt x32)) → ev_w none (ev_Mof 285) d 196 w58 [.int (Int32.ofInt x57)] s65 (K x56 x57 s65) ev_eI ev_bl) ?_ ?_
              · intro x56 hx56 x57 hx57 s65 w58 e59 e60 e61 e62 e63 e64
                refine ev_r_istore (pc := 196) (k := 5) (by decide +kernel) (by decide +kernel) rfl ?_
                refine ev_r_iload (pc := 198) (k := 4) (v := Int32.ofInt x56) (by decide +kernel) (by exact (ev_lk_st1 e62 (by decide) rfl)) ?_
                refine ev_r_jn (Q := fun K => ∀ (x66 : Int) (hx66 : ev_rng x66), ∀ (x67 : Int) (hx67 : ev_rng x67), ∀ (s74 : ev_St) (w68 : List (Nat × Value)), ev_lk w68 0 = some (.ref 621) → ev_lk w68 1 = some (.int (Int32.ofInt a0)) → ev_lk w68 3 = some (.int (Int32.ofInt x5)) → ev_lk w68 5 = some (.int (Int32.ofInt x66)) → ev_lk w68 7 = some (.int (Int32.ofInt x31)) → ev_w none (ev_Mof 285) d 250 w68 [.int (Int32.ofInt x67)] s74 (K x66 x67 s74) ev_eI ev_bl) ?_ ?_
                · intro x66 hx66 x67 hx67 s74 w68 e69 e70 e71 e72 e73
                  refine ev_r_istore (pc := 250) (k := 4) (by decide +kernel) (by decide +kernel) rfl ?_
                  exact hK252 x67 hx67 x66 hx66 x31 hx31 s74 _ (by exact (ev_l1 e69 (by decide) (by decide))) (by exact (ev_l1 e70 (by decide) (by decide))) (by exact (ev_lk_st1 e71 (by decide) rfl)) (by exact ev_lk_st1_self) (by exact (ev_l1 e72 (by decide) (by decide))) (by exact (ev_l1 e73 (by decide) (by decide)))
                · intro K250 hK250
                  refine ev_r_jn (Q := fun K => ∀ (x75 : Int) (hx75 : ev_rng x75), ∀ (s82 : ev_St) (w76 : List (Nat × Value)), ev_lk w76 0 = some (.ref 621) → ev_lk w76 1 = some (.int (Int32.ofInt a0)) → ev_lk w76 3 = some (.int (Int32.ofInt x5)) → ev_lk w76 5 = some (.int (Int32.ofInt x75)) → ev_lk w76 7 = some (.int (Int32.ofInt x31)) → ev_w none (ev_Mof 285) d 249 w76 [] s82 (K x75 s82) ev_eI ev_bl) ?_ ?_
                  · intro x75 hx75 s82 w76 e77 e78 e79 e80 e81
                    refine ev_r_iconst (pc := 249) (k := 0) (by decide +kernel) ?_
                    exact hK250 x75 hx75 0 (by decide) s82 _ (by exact e77) (by exact e78) (by exact e79) (by exact e80) (by exact e81)
                  · intro K249 hK249
                    refine ev_r_if (pc := 200) (q := .eq) (o := 49) (t := 249) (c := x56 = 0) (by decide +kernel) (ev_k_eq hx56 ev_rng0) (by decide +kernel) ?_ ?_
                    · intro c83
                      exact hK249 x57 hx57 s65 _ (by exact (ev_l1 e59 (by decide) (by decide))) (by exact (ev_l1 e60 (by decide) (by decide))) (by exact (ev_l1 e61 (by decide) (by decide))) (by exact ev_lk_st1_self) (by exact (ev_l1 e63 (by decide) (by decide)))
                    · intro c83
                      refine ev_r_aload_n (pc := 203) (k := 0) (v := .ref 621) trivial (by decide +kernel) (by exact (ev_l1 e59 (by decide) (by decide))) ?_
                      refine ev_r_getC (pc := 204) (y := 34) (ci := 13) (f := 11) (fin := 1) (k' := 630) (by decide +kernel) (by decide +kernel) (by exact ev_ob_621) rfl rfl ?_
                      refine ev_r_iload (pc := 207) (k := 8) (v := Int32.ofInt x32) (by decide +kernel) (by exact (ev_l1 e64 (by decide) (by decide))) ?_
                      refine ev_r_iald (pc := 209) hx32 (by decide +kernel) (by exact ev_ab_630) ?_
                      intro x84 hx84
                      refine ev_r_iconst (pc := 210) (k := -1) (by decide +kernel) ?_
                      refine ev_r_jn (Q := fun K => ∀ (s91 : ev_St) (w85 : List (Nat × Value)), ev_lk w85 0 = some (.ref 621) → ev_lk w85 1 = some (.int (Int32.ofInt a0)) → ev_lk w85 3 = some (.int (Int32.ofInt x5)) → ev_lk w85 5 = some (.int (Int32.ofInt x57)) → ev_lk w85 7 = some (.int (Int32.ofInt x31)) → ev_w none (ev_Mof 285) d 245 w85 [] s91 (K  s91) ev_eI ev_bl) ?_ ?_
                      · intro  s91 w85 e86 e87 e88 e89 e90
                        refine ev_r_iconst (pc := 245) (k := 1) (by decide +kernel) ?_
                        refine ev_r_goto (pc := 246) (o := 4) (t := 250) (by decide +kernel) (by decide +kernel) ?_
                        exact hK250 x57 hx57 1 (by decide) s91 _ (by exact e86) (by exact e87) (by exact e88) (by exact e89) (by exact e90)
                      · intro K245 hK245
                        refine ev_r_icmp (pc := 211) (q := .eq) (o := 34) (t := 245) (c := x84 = (-1)) (by decide +kernel) (ev_k_eq hx84 (by decide)) (by decide +kernel) ?_ ?_
                        · intro c92
                          exact hK245  s65 _ (by exact (ev_l1 e59 (by decide) (by decide))) (by exact (ev_l1 e60 (by decide) (by decide))) (by exact (ev_l1 e61 (by decide) (by decide))) (by exact ev_lk_st1_self) (by exact (ev_l1 e63 (by decide) (by decide)))
                        · intro c92
                          refine ev_r_aload_n (pc := 214) (k := 0) (v := .ref 621) trivial (by decide +kernel) (by exact (ev_l1 e59 (by decide) (by decide))) ?_
                          refine ev_r_getC (pc := 215) (y := 40) (ci := 13) (f := 13) (fin := 1) (k' := 632) (by decide +kernel) (by decide +kernel) (by exact ev_ob_621) rfl rfl ?_
                          refine ev_r_iload (pc := 218) (k := 8) (v := Int32.ofInt x32) (by decide +kernel) (by exact (ev_l1 e64 (by decide) (by decide))) ?_
                          refine ev_r_iald (pc := 220) hx32 (by decide +kernel) (by exact ev_ab_632) ?_
                          intro x93 hx93
                          refine ev_r_if (pc := 221) (q := .eq) (o := 28) (t := 249) (c := x93 = 0) (by decide +kernel) (ev_k_eq hx93 ev_rng0) (by decide +kernel) ?_ ?_
                          · intro c94
                            exact hK249 x57 hx57 s65 _ (by exact (ev_l1 e59 (by decide) (by decide))) (by exact (ev_l1 e60 (by decide) (by decide))) (by exact (ev_l1 e61 (by decide) (by decide))) (by exact ev_lk_st1_self) (by exact (ev_l1 e63 (by decide) (by decide)))
                          · intro c94
                            refine ev_r_aload_n (pc := 224) (k := 0) (v := .ref 621) trivial (by decide +kernel) (by exact (ev_l1 e59 (by decide) (by decide))) ?_
                            refine ev_r_getC (pc := 225) (y := 37) (ci := 13) (f := 12) (fin := 1) (k' := 631) (by decide +kernel) (by decide +kernel) (by exact ev_ob_621) rfl rfl ?_
                            refine ev_r_iload (pc := 228) (k := 8) (v := Int32.ofInt x32) (by decide +kernel) (by exact (ev_l1 e64 (by decide) (by decide))) ?_
                            refine ev_r_iald (pc := 230) hx32 (by decide +kernel) (by exact ev_ab_631) ?_
                            intro x95 hx95
                            refine ev_r_iconst (pc := 231) (k := 2) (by decide +kernel) ?_
                            refine ev_r_icmp (pc := 232) (q := .lt) (o := 13) (t := 245) (c := x95 < 2) (by decide +kernel) (ev_k_lt hx95 (by decide)) (by decide +kernel) ?_ ?_
                            · intro c96
                              exact hK245  s65 _ (by exact (ev_l1 e59 (by decide) (by decide))) (by exact (ev_l1 e60 (by decide) (by decide))) (by exact (ev_l1 e61 (by decide) (by decide))) (by exact ev_lk_st1_self) (by exact (ev_l1 e63 (by decide) (by decide)))
                            · intro c96
                              refine ev_r_aload_n (pc := 235) (k := 0) (v := .ref 621) trivial (by decide +kernel) (by exact (ev_l1 e59 (by decide) (by decide))) ?_
                              refine ev_r_getC (pc := 236) (y := 65) (ci := 13) (f := 21) (fin := 1) (k' := 640) (by decide +kernel) (by decide +kernel) (by exact ev_ob_621) rfl rfl ?_
                              refine ev_r_iload (pc := 239) (k := 8) (v := Int32.ofInt x32) (by decide +kernel) (by exact (ev_l1 e64 (by decide) (by decide))) ?_
                              refine ev_r_iald (pc := 241) hx32 (by decide +kernel) (by exact ev_ab_640) ?_
                              intro x97 hx97
                              refine ev_r_if (pc := 242) (q := .ne) (o := 7) (t := 249) (c := x97 ≠ 0) (by decide +kernel) (ev_k_ne hx97 ev_rng0) (by decide +kernel) ?_ ?_
                              · intro c98
                                exact hK249 x57 hx57 s65 _ (by exact (ev_l1 e59 (by decide) (by decide))) (by exact (ev_l1 e60 (by decide) (by decide))) (by exact (ev_l1 e61 (by decide) (by decide))) (by exact ev_lk_st1_self) (by exact (ev_l1 e63 (by decide) (by decide)))
                              · intro c98
                                exact hK245  s65 _ (by exact (ev_l1 e59 (by decide) (by decide))) (by exact (ev_l1 e60 (by decide) (by decide))) (by exact (ev_l1 e61 (by decide) (by decide))) (by exact ev_lk_st1_self) (by exact (ev_l1 e63 (by decide) (by decide)))
              · intro K196 hK196
                refine ev_r_jn (Q := fun K => ∀ (x99 : Int) (hx99 : ev_rng x99), ∀ (s107 : ev_St) (w100 : List (Nat × Value)), ev_lk w100 0 = some (.ref 621) → ev_lk w100 1 = some (.int (Int32.ofInt a0)) → ev_lk w100 3 = some (.int (Int32.ofInt x5)) → ev_lk w100 4 = some (.int (Int32.ofInt x99)) → ev_lk w100 7 = some (.int (Int32.ofInt x31)) → ev_lk w100 8 = some (.int (Int32.ofInt x32)) → ev_w none (ev_Mof 285) d 195 w100 [] s107 (K x99 s107) ev_eI ev_bl) ?_ ?_
                · intro x99 hx99 s107 w100 e101 e102 e103 e104 e105 e106
                  refine ev_r_iconst (pc := 195) (k := 0) (by decide +kernel) ?_
                  exact hK196 x99 hx99 0 (by decide) s107 _ (by exact e101) (by exact e102) (by exact e103) (by exact e104) (by exact e105) (by exact e106)
                · intro K195 hK195
                  refine ev_r_if (pc := 169) (q := .eq) (o := 26) (t := 195) (c := x48 = 0) (by decide +kernel) (ev_k_eq hx48 ev_rng0) (by decide +kernel) ?_ ?_
                  · intro c108
                    exact hK195 x48 hx48 s55 _ (by exact (ev_l1 e50 (by decide) (by decide))) (by exact (ev_l1 e51 (by decide) (by decide))) (by exact (ev_lk_st1 e52 (by decide) rfl)) (by exact ev_lk_st1_self) (by exact (ev_l1 e53 (by decide) (by decide))) (by exact (ev_l1 e54 (by decide) (by decide)))
                  · intro c108
                    refine ev_r_aload_n (pc := 172) (k := 0) (v := .ref 621) trivial (by decide +kernel) (by exact (ev_l1 e50 (by decide) (by decide))) ?_
                    refine ev_r_iload (pc := 173) (k := 8) (v := Int32.ofInt x32) (by decide +kernel) (by exact (ev_l1 e54 (by decide) (by decide))) ?_
                    refine ev_r_virt (pc := 175) (y := 549) (mi := 282) (na := 1) (k := 621) (as := [.int (Int32.ofInt x32)]) (rest := []) (encc := ev_oI) (Q := ev_bl) (fun x S1 h => jt_282 d (by omega) Q x32 hx32 s55 x S1 h) (by exact ev_ob_621) (by decide +kernel) (by decide +kernel) (by decide +kernel) (by decide +kernel) rfl (by (try simp only [ev_sum, ev_nv_cat]); first | done | rfl) ?_
                    intro x110 s109 hx110
                    replace hx110 := ev_bl_rng hx110
                    show ev_w _ _ _ _ _ [.int (Int32.ofInt x110)] _ _ _ _
                    refine ev_r_if (pc := 178) (q := .eq) (o := 17) (t := 195) (c := x110 = 0) (by decide +kernel) (ev_k_eq hx110 ev_rng0) (by decide +kernel) ?_ ?_
                    · intro c111
                      exact hK195 x48 hx48 s109 _ (by exact (ev_l1 e50 (by decide) (by decide))) (by exact (ev_l1 e51 (by decide) (by decide))) (by exact (ev_lk_st1 e52 (by decide) rfl)) (by exact ev_lk_st1_self) (by exact (ev_l1 e53 (by decide) (by decide))) (by exact (ev_l1 e54 (by decide) (by decide)))
                    · intro c111
                      refine ev_r_aload_n (pc := 181) (k := 0) (v := .ref 621) trivial (by decide +kernel) (by exact (ev_l1 e50 (by decide) (by decide))) ?_
                      refine ev_r_iload_n (pc := 182) (k := 1) (v := Int32.ofInt a0) (by decide +kernel) (by exact (ev_l1 e51 (by decide) (by decide))) ?_
                      refine ev_r_iload (pc := 183) (k := 7) (v := Int32.ofInt x31) (by decide +kernel) (by exact (ev_l1 e53 (by decide) (by decide))) ?_
                      refine ev_r_virt (pc := 185) (y := 555) (mi := 286) (na := 2) (k := 621) (as := [.int (Int32.ofInt a0), .int (Int32.ofInt x31)]) (rest := []) (encc := ev_oI) (Q := ev_bl) (fun x S1 h => jt_286 d (by omega) Q a0 x31 ha0 hx31 s109 x S1 h) (by exact ev_ob_621) (by decide +kernel) (by decide +kernel) (by decide +kernel) (by decide +kernel) rfl (by (try simp only [ev_sum, ev_nv_cat]); first | done | rfl) ?_
                      intro x113 s112 hx113
                      replace hx113 := ev_bl_rng hx113
                      show ev_w _ _ _ _ _ [.int (Int32.ofInt x113)] _ _ _ _
                      refine ev_r_if (pc := 188) (q := .eq) (o := 7) (t := 195) (c := x113 = 0) (by decide +kernel) (ev_k_eq hx113 ev_rng0) (by decide +kernel) ?_ ?_
                      · intro c114
                        exact hK195 x48 hx48 s112 _ (by exact (ev_l1 e50 (by decide) (by decide))) (by exact (ev_l1 e51 (by decide) (by decide))) (by exact (ev_lk_st1 e52 (by decide) rfl)) (by exact ev_lk_st1_self) (by exact (ev_l1 e53 (by decide) (by decide))) (by exact (ev_l1 e54 (by decide) (by decide)))
                      · intro c114
                        refine ev_r_iconst (pc := 191) (k := 1) (by decide +kernel) ?_
                        refine ev_r_goto (pc := 192) (o := 4) (t := 196) (by decide +kernel) (by decide +kernel) ?_
                        exact hK196 x48 hx48 1 (by decide) s112 _ (by exact (ev_l1 e50 (by decide) (by decide))) (by exact (ev_l1 e51 (by decide) (by decide))) (by exact (ev_lk_st1 e52 (by decide) rfl)) (by exact ev_lk_st1_self) (by exact (ev_l1 e53 (by decide) (by decide))) (by exact (ev_l1 e54 (by decide) (by decide)))
            · intro K165 hK165
              refine ev_r_if (pc := 157) (q := .ne) (o := 7) (t := 164) (c := x47 ≠ 0) (by decide +kernel) (ev_k_ne hx47 ev_rng0) (by decide +kernel) ?_ ?_
              · intro c115
                refine ev_r_iconst (pc := 164) (k := 0) (by decide +kernel) ?_
                exact hK165 0 (by decide) s46 _ (by exact (ev_l1 (ev_l1 e17 (by decide) (by decide)) (by decide) (by decide))) (by exact (ev_l1 (ev_l1 e18 (by decide) (by decide)) (by decide) (by decide))) (by exact (ev_l1 (ev_l1 e19 (by decide) (by decide)) (by decide) (by decide))) (by exact (ev_lk_st1 ev_lk_st1_self (by decide) rfl)) (by exact ev_lk_st1_self)
              · intro c115
                refine ev_r_iconst (pc := 160) (k := 1) (by decide +kernel) ?_
                refine ev_r_goto (pc := 161) (o := 4) (t := 165) (by decide +kernel) (by decide +kernel) ?_
                exact hK165 1 (by decide) s46 _ (by exact (ev_l1 (ev_l1 e17 (by decide) (by decide)) (by decide) (by decide))) (by exact (ev_l1 (ev_l1 e18 (by decide) (by decide)) (by decide) (by decide))) (by exact (ev_l1 (ev_l1 e19 (by decide) (by decide)) (by decide) (by decide))) (by exact (ev_lk_st1 ev_lk_st1_self (by decide) rfl)) (by exact ev_lk_st1_self)
          · intro c45
            refine ev_r_aload_n (pc := 88) (k := 0) (v := .ref 621) trivial (by decide +kernel) (by exact (ev_l1 (ev_l1 e17 (by decide) (by decide)) (by decide) (by decide))) ?_
            refine ev_r_getC (pc := 89) (y := 22) (ci := 13) (f := 7) (fin := 1) (k' := 626) (by decide +kernel) (by decide +kernel) (by exact ev_ob_621) rfl rfl ?_
            refine ev_r_iload (pc := 92) (k := 8) (v := Int32.ofInt x32) (by decide +kernel) (by exact ev_lk_st1_self) ?_
            refine ev_r_iald (pc := 94) hx32 (by decide +kernel) (by exact ev_ab_626) ?_
            intro x116 hx116
            refine ev_r_istore (pc := 95) (k := 9) (by decide +kernel) (by decide +kernel) rfl ?_
            exact jlt_285_97 d hd Q a0 x5 x14 x15 x31 ha0 hx5 hx14 hx15 hx31 K252 hK252 Q x13 hx13 x116 hx116 s23 _ (by exact (ev_l1 (ev_l1 (ev_l1 e17 (by decide) (by decide)) (by decide) (by decide)) (by decide) (by decide))) (by exact (ev_l1 (ev_l1 (ev_l1 e18 (by decide) (by decide)) (by decide) (by decide)) (by decide) (by decide))) (by exact (ev_l1 (ev_l1 (ev_l1 e19 (by decide) (by decide)) (by decide) (by decide)) (by decide) (by decide))) (by exact (ev_l1 (ev_l1 (ev_l1 e20 (by decide) (by decide)) (by decide) (by decide)) (by decide) (by decide))) (by exact (ev_l1 (ev_l1 (ev_l1 e21 (by decide) (by decide)) (by decide) (by decide)) (by decide) (by decide))) (by exact (ev_l1 (ev_l1 (ev_lk_st1 e22 (by decide) rfl) (by decide) (by decide)) (by decide) (by decide))) (by exact (ev_l1 (ev_lk_st1 ev_lk_st1_self (by decide) rfl) (by decide) (by decide))) (by exact ev_lk_st1_self)
theorem jlt_285_40 (d : Nat) (hd : 3 ≤ d + 1) (Q : Nat) (a0 : Int) (x5 : Int) (ha0 : ev_rng a0) (hx5 : ev_rng x5)   : ∀ q : Nat, ∀ (x13 : Int) (hx13 : ev_rng x13), ∀ (x14 : Int) (hx14 : ev_rng x14), ∀ (x15 : Int) (hx15 : ev_rng x15), ∀ (s23 : ev_St) (w16 : List (Nat × Value)), ev_lk w16 0 = some (.ref 621) → ev_lk w16 1 = some (.int (Int32.ofInt a0)) → ev_lk w16 3 = some (.int (Int32.ofInt x5)) → ev_lk w16 4 = some (.int (Int32.ofInt x13)) → ev_lk w16 5 = some (.int (Int32.ofInt x14)) → ev_lk w16 6 = some (.int (Int32.ofInt x15)) → ev_w none (ev_Mof 285) d 40 w16 [] s23 (jl_285_40 Q a0 x5  q x13 x14 x15 s23) ev_eI ev_bl := by
  intro q
  induction q with
  | zero =>
    intro x13 hx13 x14 hx14 x15 hx15 s23 w16 e17 e18 e19 e20 e21 e22
    exact ev_w_none
  | succ q ih => exact jbt_285_40 d hd Q a0 x5 ha0 hx5   _ ih
/-- MendBenchModel.isRunning(II)Z -/
def jm_285 (Q : Nat) (a0 : Int) (a1 : Int) (S : ev_St) : Option ((Int) × ev_St) := ev_ck (320 * a0) fun x1 => ev_ck (x1 + a1) fun x2 => ev_bd (jm_282 Q x2 S) fun x4 s3 => ev_jn (fun (x5 : Int) (x6 : Int) (s12 : ev_St) => jl_285_40 Q a0 x5  Q x6 0 a1 s12) fun K32 => ev_jn (fun (x165 : Int) (s171 : ev_St) => K32 x165 0 s171) fun K31 => if x4 = 0 then (K31 x1 s3) else (ev_ck (x1 + a1) fun x173 => ev_bd (jm_281 Q x173 a1 s3) fun x175 s174 => if x175 = 0 then (K31 x1 s174) else (K32 x1 1 s174))
theorem jt_285 (d : Nat) (hd : 3 ≤ d) (Q : Nat) (a0 : Int) (a1 : Int) (ha0 : ev_rng a0) (ha1 : ev_rng a1) (S : ev_St) (x : Int) (S' : ev_St) (hJ : jm_285 Q a0 a1 S = some (x, S')) : ev_Ref d 285 [.ref 621, .int (Int32.ofInt a0), .int (Int32.ofInt a1)] S (ev_eI x) S' (ev_bl x) := by
  obtain ⟨d, rfl⟩ : ∃ e, d = e + 1 := ⟨d - 1, by omega⟩
  refine ev_ref_of (P := ev_bl) (lv := [(0, .ref 621), (1, .int (Int32.ofInt a0)), (2, .int (Int32.ofInt a1))]) (by decide +kernel) (by (try simp only [ev_sum, ev_nv_cat]); first | done | rfl) (by (try simp only [lv_args, ev_nv_cat]); first | done | rfl) ?_ x S' hJ
  unfold jm_285
  refine ev_r_sipush (pc := 0) (k := 320) (by decide +kernel) (by decide +kernel) ?_
  refine ev_r_iload_n (pc := 3) (k := 1) (v := Int32.ofInt a0) (by decide +kernel) (by rfl) ?_
  refine ev_r_imul (pc := 4) (by decide +kernel) ?_
  intro x1 hx1
  refine ev_r_istore_n (pc := 5) (k := 3) (by decide +kernel) (by decide +kernel) rfl ?_
  refine ev_r_aload_n (pc := 6) (k := 0) (v := .ref 621) trivial (by decide +kernel) (by exact (ev_l1 (by rfl) (by decide) (by decide))) ?_
  refine ev_r_iload_n (pc := 7) (k := 3) (v := Int32.ofInt x1) (by decide +kernel) (by exact ev_lk_st1_self) ?_
  refine ev_r_iload_n (pc := 8) (k := 2) (v := Int32.ofInt a1) (by decide +kernel) (by exact (ev_lk_st1 (by rfl) (by decide) rfl)) ?_
  refine ev_r_iadd (pc := 9) (by decide +kernel) ?_
  intro x2 hx2
  refine ev_r_virt (pc := 10) (y := 549) (mi := 282) (na := 1) (k := 621) (as := [.int (Int32.ofInt x2)]) (rest := []) (encc := ev_oI) (Q := ev_bl) (fun x S1 h => jt_282 d (by omega) Q x2 hx2 S x S1 h) (by exact ev_ob_621) (by decide +kernel) (by decide +kernel) (by decide +kernel) (by decide +kernel) rfl (by (try simp only [ev_sum, ev_nv_cat]); first | done | rfl) ?_
  intro x4 s3 hx4
  replace hx4 := ev_bl_rng hx4
  show ev_w _ _ _ _ _ [.int (Int32.ofInt x4)] _ _ _ _
  refine ev_r_jn (Q := fun K => ∀ (x5 : Int) (hx5 : ev_rng x5), ∀ (x6 : Int) (hx6 : ev_rng x6), ∀ (s12 : ev_St) (w7 : List (Nat × Value)), ev_lk w7 0 = some (.ref 621) → ev_lk w7 1 = some (.int (Int32.ofInt a0)) → ev_lk w7 2 = some (.int (Int32.ofInt a1)) → ev_lk w7 3 = some (.int (Int32.ofInt x5)) → ev_w none (ev_Mof 285) d 32 w7 [.int (Int32.ofInt x6)] s12 (K x5 x6 s12) ev_eI ev_bl) ?_ ?_
  · intro x5 hx5 x6 hx6 s12 w7 e8 e9 e10 e11
    refine ev_r_istore (pc := 32) (k := 4) (by decide +kernel) (by decide +kernel) rfl ?_
    refine ev_r_iconst (pc := 34) (k := 0) (by decide +kernel) ?_
    refine ev_r_istore (pc := 35) (k := 5) (by decide +kernel) (by decide +kernel) rfl ?_
    refine ev_r_iload_n (pc := 37) (k := 2) (v := Int32.ofInt a1) (by decide +kernel) (by exact (ev_l1 (ev_l1 e10 (by decide) (by decide)) (by decide) (by decide))) ?_
    refine ev_r_istore (pc := 38) (k := 6) (by decide +kernel) (by decide +kernel) rfl ?_
    exact jlt_285_40 d hd Q a0 x5 ha0 hx5   Q x6 hx6 0 (by decide) a1 ha1 s12 _ (by exact (ev_l1 (ev_l1 (ev_l1 e8 (by decide) (by decide)) (by decide) (by decide)) (by decide) (by decide))) (by exact (ev_l1 (ev_l1 (ev_l1 e9 (by decide) (by decide)) (by decide) (by decide)) (by decide) (by decide))) (by exact (ev_l1 (ev_l1 (ev_lk_st1 e11 (by decide) rfl) (by decide) (by decide)) (by decide) (by decide))) (by exact (ev_l1 (ev_lk_st1 ev_lk_st1_self (by decide) rfl) (by decide) (by decide))) (by exact (ev_lk_st1 ev_lk_st1_self (by decide) rfl)) (by exact ev_lk_st1_self)
  · intro K32 hK32
    refine ev_r_jn (Q := fun K => ∀ (x165 : Int) (hx165 : ev_rng x165), ∀ (s171 : ev_St) (w166 : List (Nat × Value)), ev_lk w166 0 = some (.ref 621) → ev_lk w166 1 = some (.int (Int32.ofInt a0)) → ev_lk w166 2 = some (.int (Int32.ofInt a1)) → ev_lk w166 3 = some (.int (Int32.ofInt x165)) → ev_w none (ev_Mof 285) d 31 w166 [] s171 (K x165 s171) ev_eI ev_bl) ?_ ?_
    · intro x165 hx165 s171 w166 e167 e168 e169 e170
      refine ev_r_iconst (pc := 31) (k := 0) (by decide +kernel) ?_
      exact hK32 x165 hx165 0 (by decide) s171 _ (by exact e167) (by exact e168) (by exact e169) (by exact e170)
    · intro K31 hK31
      refine ev_r_if (pc := 13) (q := .eq) (o := 18) (t := 31) (c := x4 = 0) (by decide +kernel) (ev_k_eq hx4 ev_rng0) (by decide +kernel) ?_ ?_
      · intro c172
        exact hK31 x1 hx1 s3 _ (by exact (ev_l1 (by rfl) (by decide) (by decide))) (by exact (ev_l1 (by rfl) (by decide) (by decide))) (by exact (ev_lk_st1 (by rfl) (by decide) rfl)) (by exact ev_lk_st1_self)
      · intro c172
        refine ev_r_aload_n (pc := 16) (k := 0) (v := .ref 621) trivial (by decide +kernel) (by exact (ev_l1 (by rfl) (by decide) (by decide))) ?_
        refine ev_r_iload_n (pc := 17) (k := 3) (v := Int32.ofInt x1) (by decide +kernel) (by exact ev_lk_st1_self) ?_
        refine ev_r_iload_n (pc := 18) (k := 2) (v := Int32.ofInt a1) (by decide +kernel) (by exact (ev_lk_st1 (by rfl) (by decide) rfl)) ?_
        refine ev_r_iadd (pc := 19) (by decide +kernel) ?_
        intro x173 hx173
        refine ev_r_iload_n (pc := 20) (k := 2) (v := Int32.ofInt a1) (by decide +kernel) (by exact (ev_lk_st1 (by rfl) (by decide) rfl)) ?_
        refine ev_r_virt (pc := 21) (y := 545) (mi := 281) (na := 2) (k := 621) (as := [.int (Int32.ofInt x173), .int (Int32.ofInt a1)]) (rest := []) (encc := ev_oI) (Q := ev_bl) (fun x S1 h => jt_281 d (by omega) Q x173 a1 hx173 ha1 s3 x S1 h) (by exact ev_ob_621) (by decide +kernel) (by decide +kernel) (by decide +kernel) (by decide +kernel) rfl (by (try simp only [ev_sum, ev_nv_cat]); first | done | rfl) ?_
        intro x175 s174 hx175
        replace hx175 := ev_bl_rng hx175
        show ev_w _ _ _ _ _ [.int (Int32.ofInt x175)] _ _ _ _
        refine ev_r_if (pc := 24) (q := .eq) (o := 7) (t := 31) (c := x175 = 0) (by decide +kernel) (ev_k_eq hx175 ev_rng0) (by decide +kernel) ?_ ?_
        · intro c176
          exact hK31 x1 hx1 s174 _ (by exact (ev_l1 (by rfl) (by decide) (by decide))) (by exact (ev_l1 (by rfl) (by decide) (by decide))) (by exact (ev_lk_st1 (by rfl) (by decide) rfl)) (by exact ev_lk_st1_self)
        · intro c176
          refine ev_r_iconst (pc := 27) (k := 1) (by decide +kernel) ?_
          refine ev_r_goto (pc := 28) (o := 4) (t := 32) (by decide +kernel) (by decide +kernel) ?_
          exact hK32 x1 hx1 1 (by decide) s174 _ (by exact (ev_l1 (by rfl) (by decide) (by decide))) (by exact (ev_l1 (by rfl) (by decide) (by decide))) (by exact (ev_lk_st1 (by rfl) (by decide) rfl)) (by exact ev_lk_st1_self)
def jb_287_48 (Q : Nat) (a0 : Int) (x6 : Int) (K75 : ev_St → Option ((Int) × ev_St)) (K48 : Int → ev_St → Option ((Int) × ev_St)) (x23 : Int) (s29 : ev_St) : Option ((Int) × ev_St) := ev_if ((0 : Int) ≤ a0 ∧ a0 < (ev_aln 635 : Int)) (ev_b (s29.1 635 (Int.toNat a0)) fun x30 => if x30 ≤ x23 then (K75  s29) else (ev_bd (jm_285 Q a0 x23 s29) fun x33 s32 => if x33 = 0 then (ev_ck (x23 + 1) fun x35 => K48 x35 s32) else (some (x6, s32))))
def jl_287_48 (Q : Nat) (a0 : Int) (x6 : Int) (K75 : ev_St → Option ((Int) × ev_St)) : Nat → Int → ev_St → Option ((Int) × ev_St)
  | 0 => fun _ _ => none
  | q + 1 => jb_287_48 Q a0 x6 K75 (jl_287_48 Q a0 x6 K75 q)
theorem jbt_287_48 (d : Nat) (hd : 4 ≤ d + 1) (Q : Nat) (a0 : Int) (x6 : Int) (ha0 : ev_rng a0) (hx6 : ev_rng x6) (K75 : ev_St → Option ((Int) × ev_St)) (hK75 : ∀ (s19 : ev_St) (w15 : List (Nat × Value)), ev_lk w15 0 = some (.ref 621) → ev_lk w15 1 = some (.int (Int32.ofInt a0)) → ev_lk w15 2 = some (.int (Int32.ofInt x6)) → ev_w none (ev_Mof 287) d 75 w15 [] s19 (K75  s19) ev_eI ev_rng) (K48 : Int → ev_St → Option ((Int) × ev_St)) (hK48 : ∀ (x23 : Int) (hx23 : ev_rng x23), ∀ (s29 : ev_St) (w24 : List (Nat × Value)), ev_lk w24 0 = some (.ref 621) → ev_lk w24 1 = some (.int (Int32.ofInt a0)) → ev_lk w24 2 = some (.int (Int32.ofInt x6)) → ev_lk w24 3 = some (.int (Int32.ofInt x23)) → ev_w none (ev_Mof 287) d 48 w24 [] s29 (K48 x23 s29) ev_eI ev_rng) : ∀ (x23 : Int) (hx23 : ev_rng x23), ∀ (s29 : ev_St) (w24 : List (Nat × Value)), ev_lk w24 0 = some (.ref 621) → ev_lk w24 1 = some (.int (Int32.ofInt a0)) → ev_lk w24 2 = some (.int (Int32.ofInt x6)) → ev_lk w24 3 = some (.int (Int32.ofInt x23)) → ev_w none (ev_Mof 287) d 48 w24 [] s29 (jb_287_48 Q a0 x6 K75 K48 x23 s29) ev_eI ev_rng := by
  intro x23 hx23 s29 w24 e25 e26 e27 e28
  unfold jb_287_48
  refine ev_r_iload_n (pc := 48) (k := 3) (v := Int32.ofInt x23) (by decide +kernel) (by exact e28) ?_
  refine ev_r_aload_n (pc := 49) (k := 0) (v := .ref 621) trivial (by decide +kernel) (by exact e25) ?_
  refine ev_r_getC (pc := 50) (y := 50) (ci := 13) (f := 16) (fin := 1) (k' := 635) (by decide +kernel) (by decide +kernel) (by exact ev_ob_621) rfl rfl ?_
  refine ev_r_iload_n (pc := 53) (k := 1) (v := Int32.ofInt a0) (by decide +kernel) (by exact e26) ?_
  refine ev_r_iald (pc := 54) ha0 (by decide +kernel) (by exact ev_ab_635) ?_
  intro x30 hx30
  refine ev_r_icmp (pc := 55) (q := .ge) (o := 20) (t := 75) (c := x30 ≤ x23) (by decide +kernel) (ev_k_ge hx23 hx30) (by decide +kernel) ?_ ?_
  · intro c31
    exact hK75  s29 _ (by exact e25) (by exact e26) (by exact e27)
  · intro c31
    refine ev_r_aload_n (pc := 58) (k := 0) (v := .ref 621) trivial (by decide +kernel) (by exact e25) ?_
    refine ev_r_iload_n (pc := 59) (k := 1) (v := Int32.ofInt a0) (by decide +kernel) (by exact e26) ?_
    refine ev_r_iload_n (pc := 60) (k := 3) (v := Int32.ofInt x23) (by decide +kernel) (by exact e28) ?_
    refine ev_r_virt (pc := 61) (y := 564) (mi := 285) (na := 2) (k := 621) (as := [.int (Int32.ofInt a0), .int (Int32.ofInt x23)]) (rest := []) (encc := ev_oI) (Q := ev_bl) (fun x S1 h => jt_285 d (by omega) Q a0 x23 ha0 hx23 s29 x S1 h) (by exact ev_ob_621) (by decide +kernel) (by decide +kernel) (by decide +kernel) (by decide +kernel) rfl (by (try simp only [ev_sum, ev_nv_cat]); first | done | rfl) ?_
    intro x33 s32 hx33
    replace hx33 := ev_bl_rng hx33
    show ev_w _ _ _ _ _ [.int (Int32.ofInt x33)] _ _ _ _
    refine ev_r_if (pc := 64) (q := .eq) (o := 5) (t := 69) (c := x33 = 0) (by decide +kernel) (ev_k_eq hx33 ev_rng0) (by decide +kernel) ?_ ?_
    · intro c34
      refine ev_r_iinc (pc := 69) (k := 3) (c := 1) (x := x23) (by decide +kernel) (by decide +kernel) (by exact e28) (fun _ => rfl) ?_
      intro x35 hx35
      refine ev_r_goto (pc := 72) (o := (-24)) (t := 48) (by decide +kernel) (by decide +kernel) ?_
      exact hK48 x35 hx35 s32 _ (by exact (ev_l1 e25 (by decide) (by decide))) (by exact (ev_l1 e26 (by decide) (by decide))) (by exact (ev_lk_st1 e27 (by decide) rfl)) (by exact ev_lk_st1_self)
    · intro c34
      refine ev_r_iload_n (pc := 67) (k := 2) (v := Int32.ofInt x6) (by decide +kernel) (by exact e27) ?_
      exact ev_r_ireturn (pc := 68) (x := x6) (v := Int32.ofInt x6) (ty := .int) hx6 (by decide +kernel) (by decide +kernel) rfl rfl
theorem jlt_287_48 (d : Nat) (hd : 4 ≤ d + 1) (Q : Nat) (a0 : Int) (x6 : Int) (ha0 : ev_rng a0) (hx6 : ev_rng x6) (K75 : ev_St → Option ((Int) × ev_St)) (hK75 : ∀ (s19 : ev_St) (w15 : List (Nat × Value)), ev_lk w15 0 = some (.ref 621) → ev_lk w15 1 = some (.int (Int32.ofInt a0)) → ev_lk w15 2 = some (.int (Int32.ofInt x6)) → ev_w none (ev_Mof 287) d 75 w15 [] s19 (K75  s19) ev_eI ev_rng) : ∀ q : Nat, ∀ (x23 : Int) (hx23 : ev_rng x23), ∀ (s29 : ev_St) (w24 : List (Nat × Value)), ev_lk w24 0 = some (.ref 621) → ev_lk w24 1 = some (.int (Int32.ofInt a0)) → ev_lk w24 2 = some (.int (Int32.ofInt x6)) → ev_lk w24 3 = some (.int (Int32.ofInt x23)) → ev_w none (ev_Mof 287) d 48 w24 [] s29 (jl_287_48 Q a0 x6 K75 q x23 s29) ev_eI ev_rng := by
  intro q
  induction q with
  | zero =>
    intro x23 hx23 s29 w24 e25 e26 e27 e28
    exact ev_w_none
  | succ q ih => exact jbt_287_48 d hd Q a0 x6 ha0 hx6 K75 hK75 _ ih
def jb_287_27 (Q : Nat) (a0 : Int)  (K27 : Int → ev_St → Option ((Int) × ev_St)) (x6 : Int) (s11 : ev_St) : Option ((Int) × ev_St) := if 127 ≤ x6 then (some ((-1), s11)) else (ev_bd (jm_223 Q x6 s11) fun x14 s13 => ev_jn (fun  (s19 : ev_St) => ev_ck (x6 + 1) fun x20 => K27 x20 s19) fun K75 => if x14 = 0 then (K75  s13) else (ev_bd (jm_280 Q a0 x6 s13) fun _ s22 => jl_287_48 Q a0 x6 K75 Q 0 s22))
def jl_287_27 (Q : Nat) (a0 : Int)  : Nat → Int → ev_St → Option ((Int) × ev_St)
  | 0 => fun _ _ => none
  | q + 1 => jb_287_27 Q a0  (jl_287_27 Q a0  q)
theorem jbt_287_27 (d : Nat) (hd : 4 ≤ d + 1) (Q : Nat) (a0 : Int) (ha0 : ev_rng a0)   (K27 : Int → ev_St → Option ((Int) × ev_St)) (hK27 : ∀ (x6 : Int) (hx6 : ev_rng x6), ∀ (s11 : ev_St) (w7 : List (Nat × Value)), ev_lk w7 0 = some (.ref 621) → ev_lk w7 1 = some (.int (Int32.ofInt a0)) → ev_lk w7 2 = some (.int (Int32.ofInt x6)) → ev_w none (ev_Mof 287) d 27 w7 [] s11 (K27 x6 s11) ev_eI ev_rng) : ∀ (x6 : Int) (hx6 : ev_rng x6), ∀ (s11 : ev_St) (w7 : List (Nat × Value)), ev_lk w7 0 = some (.ref 621) → ev_lk w7 1 = some (.int (Int32.ofInt a0)) → ev_lk w7 2 = some (.int (Int32.ofInt x6)) → ev_w none (ev_Mof 287) d 27 w7 [] s11 (jb_287_27 Q a0  K27 x6 s11) ev_eI ev_rng := by
  intro x6 hx6 s11 w7 e8 e9 e10
  unfold jb_287_27
  refine ev_r_iload_n (pc := 27) (k := 2) (v := Int32.ofInt x6) (by decide +kernel) (by exact e10) ?_
  refine ev_r_bipush (pc := 28) (k := 127) (by decide +kernel) (by decide +kernel) ?_
  refine ev_r_icmp (pc := 30) (q := .ge) (o := 51) (t := 81) (c := 127 ≤ x6) (by decide +kernel) (ev_k_ge hx6 (by decide)) (by decide +kernel) ?_ ?_
  · intro c12
    refine ev_r_iconst (pc := 81) (k := -1) (by decide +kernel) ?_
    exact ev_r_ireturn (pc := 82) (x := (-1)) (v := Int32.ofInt ((-1))) (ty := .int) (by decide) (by decide +kernel) (by decide +kernel) rfl rfl
  · intro c12
    refine ev_r_iload_n (pc := 33) (k := 2) (v := Int32.ofInt x6) (by decide +kernel) (by exact e10) ?_
    refine ev_r_stat (pc := 34) (y := 339) (kind := 2) (mi := 223) (na := 1) (as := [.int (Int32.ofInt x6)]) (rest := []) (encc := ev_oI) (Q := ev_bl) (fun x S1 h => jt_223 d (by omega) Q x6 hx6 s11 x S1 h) (Or.inl rfl) (by decide +kernel) (by decide +kernel) (by decide +kernel) (by decide +kernel) rfl (by (try simp only [ev_sum, ev_nv_cat]); first | done | rfl) ?_
    intro x14 s13 hx14
    replace hx14 := ev_bl_rng hx14
    show ev_w _ _ _ _ _ [.int (Int32.ofInt x14)] _ _ _ _
    refine ev_r_jn (Q := fun K => ∀ (s19 : ev_St) (w15 : List (Nat × Value)), ev_lk w15 0 = some (.ref 621) → ev_lk w15 1 = some (.int (Int32.ofInt a0)) → ev_lk w15 2 = some (.int (Int32.ofInt x6)) → ev_w none (ev_Mof 287) d 75 w15 [] s19 (K  s19) ev_eI ev_rng) ?_ ?_
    · intro  s19 w15 e16 e17 e18
      refine ev_r_iinc (pc := 75) (k := 2) (c := 1) (x := x6) (by decide +kernel) (by decide +kernel) (by exact e18) (fun _ => rfl) ?_
      intro x20 hx20
      refine ev_r_goto (pc := 78) (o := (-51)) (t := 27) (by decide +kernel) (by decide +kernel) ?_
      exact hK27 x20 hx20 s19 _ (by exact (ev_l1 e16 (by decide) (by decide))) (by exact (ev_lk_st1 e17 (by decide) rfl)) (by exact ev_lk_st1_self)
    · intro K75 hK75
      refine ev_r_if (pc := 37) (q := .eq) (o := 38) (t := 75) (c := x14 = 0) (by decide +kernel) (ev_k_eq hx14 ev_rng0) (by decide +kernel) ?_ ?_
      · intro c21
        exact hK75  s13 _ (by exact e8) (by exact e9) (by exact e10)
      · intro c21
        refine ev_r_aload_n (pc := 40) (k := 0) (v := .ref 621) trivial (by decide +kernel) (by exact e8) ?_
        refine ev_r_iload_n (pc := 41) (k := 1) (v := Int32.ofInt a0) (by decide +kernel) (by exact e9) ?_
        refine ev_r_iload_n (pc := 42) (k := 2) (v := Int32.ofInt x6) (by decide +kernel) (by exact e10) ?_
        refine ev_r_virt (pc := 43) (y := 561) (mi := 280) (na := 2) (k := 621) (as := [.int (Int32.ofInt a0), .int (Int32.ofInt x6)]) (rest := []) (encc := ev_oU) (Q := ev_PU) (fun x S1 h => jt_280 d (by omega) Q a0 x6 ha0 hx6 s13 x S1 h) (by exact ev_ob_621) (by decide +kernel) (by decide +kernel) (by decide +kernel) (by decide +kernel) rfl (by (try simp only [ev_sum, ev_nv_cat]); first | done | rfl) ?_
        intro _ s22 _
        show ev_w _ _ _ _ _ [] _ _ _ _
        refine ev_r_iconst (pc := 46) (k := 0) (by decide +kernel) ?_
        refine ev_r_istore_n (pc := 47) (k := 3) (by decide +kernel) (by decide +kernel) rfl ?_
        exact jlt_287_48 d hd Q a0 x6 ha0 hx6 K75 hK75 Q 0 (by decide) s22 _ (by exact (ev_l1 e8 (by decide) (by decide))) (by exact (ev_l1 e9 (by decide) (by decide))) (by exact (ev_lk_st1 e10 (by decide) rfl)) (by exact ev_lk_st1_self)
theorem jlt_287_27 (d : Nat) (hd : 4 ≤ d + 1) (Q : Nat) (a0 : Int) (ha0 : ev_rng a0)   : ∀ q : Nat, ∀ (x6 : Int) (hx6 : ev_rng x6), ∀ (s11 : ev_St) (w7 : List (Nat × Value)), ev_lk w7 0 = some (.ref 621) → ev_lk w7 1 = some (.int (Int32.ofInt a0)) → ev_lk w7 2 = some (.int (Int32.ofInt x6)) → ev_w none (ev_Mof 287) d 27 w7 [] s11 (jl_287_27 Q a0  q x6 s11) ev_eI ev_rng := by
  intro q
  induction q with
  | zero =>
    intro x6 hx6 s11 w7 e8 e9 e10
    exact ev_w_none
  | succ q ih => exact jbt_287_27 d hd Q a0 ha0   _ ih
/-- MendBenchModel.runaway(I)I -/
def jm_287 (Q : Nat) (a0 : Int) (S : ev_St) : Option ((Int) × ev_St) := ev_b (ev_pI S 621 0 0) fun s1 => ev_bd (jm_273 Q a0 s1) fun x3 s2 => if x3 ≠ 0 then (ev_bd (jm_283 Q a0 s2) fun _ s5 => jl_287_27 Q a0  Q 10 s5) else (ev_bd (jm_221 Q 1 s2) fun x37 s36 => some (x37, s36))
theorem jt_287 (d : Nat) (hd : 4 ≤ d) (Q : Nat) (a0 : Int) (ha0 : ev_rng a0) (S : ev_St) (x : Int) (S' : ev_St) (hJ : jm_287 Q a0 S = some (x, S')) : ev_Ref d 287 [.ref 621, .int (Int32.ofInt a0)] S (ev_eI x) S' (ev_rng x) := by
  obtain ⟨d, rfl⟩ : ∃ e, d = e + 1 := ⟨d - 1, by omega⟩
  refine ev_ref_of (P := ev_rng) (lv := [(0, .ref 621), (1, .int (Int32.ofInt a0))]) (by decide +kernel) (by (try simp only [ev_sum, ev_nv_cat]); first | done | rfl) (by (try simp only [lv_args, ev_nv_cat]); first | done | rfl) ?_ x S' hJ
  unfold jm_287
  refine ev_r_aload_n (pc := 0) (k := 0) (v := .ref 621) trivial (by decide +kernel) (by rfl) ?_
  refine ev_r_iconst (pc := 1) (k := 0) (by decide +kernel) ?_
  refine ev_r_putI (pc := 2) (y := 321) (ci := 13) (f := 0) (by decide) (by decide +kernel) (by decide +kernel) (by exact ev_ob_621) rfl rfl ?_
  intro s1
  refine ev_r_aload_n (pc := 5) (k := 0) (v := .ref 621) trivial (by decide +kernel) (by rfl) ?_
  refine ev_r_iload_n (pc := 6) (k := 1) (v := Int32.ofInt a0) (by decide +kernel) (by rfl) ?_
  refine ev_r_virt (pc := 7) (y := 531) (mi := 273) (na := 1) (k := 621) (as := [.int (Int32.ofInt a0)]) (rest := []) (encc := ev_oI) (Q := ev_bl) (fun x S1 h => jt_273 d (by omega) Q a0 ha0 s1 x S1 h) (by exact ev_ob_621) (by decide +kernel) (by decide +kernel) (by decide +kernel) (by decide +kernel) rfl (by (try simp only [ev_sum, ev_nv_cat]); first | done | rfl) ?_
  intro x3 s2 hx3
  replace hx3 := ev_bl_rng hx3
  show ev_w _ _ _ _ _ [.int (Int32.ofInt x3)] _ _ _ _
  refine ev_r_if (pc := 10) (q := .ne) (o := 9) (t := 19) (c := x3 ≠ 0) (by decide +kernel) (ev_k_ne hx3 ev_rng0) (by decide +kernel) ?_ ?_
  · intro c4
    refine ev_r_aload_n (pc := 19) (k := 0) (v := .ref 621) trivial (by decide +kernel) (by rfl) ?_
    refine ev_r_iload_n (pc := 20) (k := 1) (v := Int32.ofInt a0) (by decide +kernel) (by rfl) ?_
    refine ev_r_virt (pc := 21) (y := 558) (mi := 283) (na := 1) (k := 621) (as := [.int (Int32.ofInt a0)]) (rest := []) (encc := ev_oU) (Q := ev_PU) (fun x S1 h => jt_283 d (by omega) Q a0 ha0 s2 x S1 h) (by exact ev_ob_621) (by decide +kernel) (by decide +kernel) (by decide +kernel) (by decide +kernel) rfl (by (try simp only [ev_sum, ev_nv_cat]); first | done | rfl) ?_
    intro _ s5 _
    show ev_w _ _ _ _ _ [] _ _ _ _
    refine ev_r_bipush (pc := 24) (k := 10) (by decide +kernel) (by decide +kernel) ?_
    refine ev_r_istore_n (pc := 26) (k := 2) (by decide +kernel) (by decide +kernel) rfl ?_
    exact jlt_287_27 d hd Q a0 ha0   Q 10 (by decide) s5 _ (by exact (ev_l1 (by rfl) (by decide) (by decide))) (by exact (ev_lk_st1 (by rfl) (by decide) rfl)) (by exact ev_lk_st1_self)
  · intro c4
    refine ev_r_aload_n (pc := 13) (k := 0) (v := .ref 621) trivial (by decide +kernel) (by rfl) ?_
    refine ev_r_iconst (pc := 14) (k := 1) (by decide +kernel) ?_
    refine ev_r_virt (pc := 15) (y := 342) (mi := 221) (na := 1) (k := 621) (as := [.int (Int32.ofInt 1)]) (rest := []) (encc := ev_oI) (Q := ev_rng) (fun x S1 h => jt_221 d (by omega) Q 1 (by decide) s2 x S1 h) (by exact ev_ob_621) (by decide +kernel) (by decide +kernel) (by decide +kernel) (by decide +kernel) rfl (by (try simp only [ev_sum, ev_nv_cat]); first | done | rfl) ?_
    intro x37 s36 hx37
    show ev_w _ _ _ _ _ [.int (Int32.ofInt x37)] _ _ _ _
    exact ev_r_ireturn (pc := 18) (x := x37) (v := Int32.ofInt x37) (ty := .int) hx37 (by decide +kernel) (by decide +kernel) rfl rfl
def jb_288_12 (Q : Nat) (a0 : Int)  (K12 : Int → ev_St → Option ((Unit) × ev_St)) (x3 : Int) (s8 : ev_St) : Option ((Unit) × ev_St) := ev_b (s8.1 621 73) fun x9 => if x9 ≤ x3 then (some ((), s8)) else (ev_ck (200 * a0) fun x11 => ev_ck (x11 + x3) fun x12 => ev_if ((0 : Int) ≤ x12 ∧ x12 < (ev_aln 708 : Int)) (ev_b (s8.1 708 (Int.toNat x12)) fun x13 => ev_if ((0 : Int) ≤ x3 ∧ x3 < (ev_aln 678 : Int)) (ev_b (ev_pI s8 678 (Int.toNat x3) x13) fun s14 => ev_ck (x3 + 1) fun x15 => K12 x15 s14)))
def jl_288_12 (Q : Nat) (a0 : Int)  : Nat → Int → ev_St → Option ((Unit) × ev_St)
  | 0 => fun _ _ => none
  | q + 1 => jb_288_12 Q a0  (jl_288_12 Q a0  q)
theorem jbt_288_12 (d : Nat) (hd : 1 ≤ d + 1) (Q : Nat) (a0 : Int) (ha0 : ev_rng a0)   (K12 : Int → ev_St → Option ((Unit) × ev_St)) (hK12 : ∀ (x3 : Int) (hx3 : ev_rng x3), ∀ (s8 : ev_St) (w4 : List (Nat × Value)), ev_lk w4 0 = some (.ref 621) → ev_lk w4 1 = some (.int (Int32.ofInt a0)) → ev_lk w4 2 = some (.int (Int32.ofInt x3)) → ev_w none (ev_Mof 288) d 12 w4 [] s8 (K12 x3 s8) ev_eU ev_PU) : ∀ (x3 : Int) (hx3 : ev_rng x3), ∀ (s8 : ev_St) (w4 : List (Nat × Value)), ev_lk w4 0 = some (.ref 621) → ev_lk w4 1 = some (.int (Int32.ofInt a0)) → ev_lk w4 2 = some (.int (Int32.ofInt x3)) → ev_w none (ev_Mof 288) d 12 w4 [] s8 (jb_288_12 Q a0  K12 x3 s8) ev_eU ev_PU := by
  intro x3 hx3 s8 w4 e5 e6 e7
  unfold jb_288_12
  refine ev_r_iload_n (pc := 12) (k := 2) (v := Int32.ofInt x3) (by decide +kernel) (by exact e7) ?_
  refine ev_r_aload_n (pc := 13) (k := 0) (v := .ref 621) trivial (by decide +kernel) (by exact e5) ?_
  refine ev_r_getI (pc := 14) (y := 567) (ci := 13) (f := 73) (fin := 0) (by decide +kernel) (by decide +kernel) (by exact ev_ob_621) rfl ?_
  intro x9 hx9
  refine ev_r_icmp (pc := 17) (q := .ge) (o := 27) (t := 44) (c := x9 ≤ x3) (by decide +kernel) (ev_k_ge hx3 hx9) (by decide +kernel) ?_ ?_
  · intro c10
    exact ev_r_return (pc := 44) (x := ()) trivial (by decide +kernel) (by decide +kernel) rfl
  · intro c10
    refine ev_r_aload_n (pc := 20) (k := 0) (v := .ref 621) trivial (by decide +kernel) (by exact e5) ?_
    refine ev_r_getC (pc := 21) (y := 181) (ci := 13) (f := 74) (fin := 1) (k' := 678) (by decide +kernel) (by decide +kernel) (by exact ev_ob_621) rfl rfl ?_
    refine ev_r_iload_n (pc := 24) (k := 2) (v := Int32.ofInt x3) (by decide +kernel) (by exact e7) ?_
    refine ev_r_aload_n (pc := 25) (k := 0) (v := .ref 621) trivial (by decide +kernel) (by exact e5) ?_
    refine ev_r_getC (pc := 26) (y := 273) (ci := 13) (f := 120) (fin := 1) (k' := 708) (by decide +kernel) (by decide +kernel) (by exact ev_ob_621) rfl rfl ?_
    refine ev_r_sipush (pc := 29) (k := 200) (by decide +kernel) (by decide +kernel) ?_
    refine ev_r_iload_n (pc := 32) (k := 1) (v := Int32.ofInt a0) (by decide +kernel) (by exact e6) ?_
    refine ev_r_imul (pc := 33) (by decide +kernel) ?_
    intro x11 hx11
    refine ev_r_iload_n (pc := 34) (k := 2) (v := Int32.ofInt x3) (by decide +kernel) (by exact e7) ?_
    refine ev_r_iadd (pc := 35) (by decide +kernel) ?_
    intro x12 hx12
    refine ev_r_iald (pc := 36) hx12 (by decide +kernel) (by exact ev_ab_708) ?_
    intro x13 hx13
    refine ev_r_iast (pc := 37) hx13 hx3 (by decide +kernel) (by exact ev_ab_678) ?_
    intro s14
    refine ev_r_iinc (pc := 38) (k := 2) (c := 1) (x := x3) (by decide +kernel) (by decide +kernel) (by exact e7) (fun _ => rfl) ?_
    intro x15 hx15
    refine ev_r_goto (pc := 41) (o := (-29)) (t := 12) (by decide +kernel) (by decide +kernel) ?_
    exact hK12 x15 hx15 s14 _ (by exact (ev_l1 e5 (by decide) (by decide))) (by exact (ev_lk_st1 e6 (by decide) rfl)) (by exact ev_lk_st1_self)
theorem jlt_288_12 (d : Nat) (hd : 1 ≤ d + 1) (Q : Nat) (a0 : Int) (ha0 : ev_rng a0)   : ∀ q : Nat, ∀ (x3 : Int) (hx3 : ev_rng x3), ∀ (s8 : ev_St) (w4 : List (Nat × Value)), ev_lk w4 0 = some (.ref 621) → ev_lk w4 1 = some (.int (Int32.ofInt a0)) → ev_lk w4 2 = some (.int (Int32.ofInt x3)) → ev_w none (ev_Mof 288) d 12 w4 [] s8 (jl_288_12 Q a0  q x3 s8) ev_eU ev_PU := by
  intro q
  induction q with
  | zero =>
    intro x3 hx3 s8 w4 e5 e6 e7
    exact ev_w_none
  | succ q ih => exact jbt_288_12 d hd Q a0 ha0   _ ih
/-- MendBenchModel.loads(I)V -/
def jm_288 (Q : Nat) (a0 : Int) (S : ev_St) : Option ((Unit) × ev_St) := ev_if ((0 : Int) ≤ a0 ∧ a0 < (ev_aln 707 : Int)) (ev_b (S.1 707 (Int.toNat a0)) fun x1 => ev_b (ev_pI S 621 73 x1) fun s2 => jl_288_12 Q a0  Q 0 s2)
theorem jt_288 (d : Nat) (hd : 1 ≤ d) (Q : Nat) (a0 : Int) (ha0 : ev_rng a0) (S : ev_St) (x : Unit) (S' : ev_St) (hJ : jm_288 Q a0 S = some (x, S')) : ev_Ref d 288 [.ref 621, .int (Int32.ofInt a0)] S (ev_eU x) S' (ev_PU x) := by
  obtain ⟨d, rfl⟩ : ∃ e, d = e + 1 := ⟨d - 1, by omega⟩
  refine ev_ref_of (P := ev_PU) (lv := [(0, .ref 621), (1, .int (Int32.ofInt a0))]) (by decide +kernel) (by (try simp only [ev_sum, ev_nv_cat]); first | done | rfl) (by (try simp only [lv_args, ev_nv_cat]); first | done | rfl) ?_ x S' hJ
  unfold jm_288
  refine ev_r_aload_n (pc := 0) (k := 0) (v := .ref 621) trivial (by decide +kernel) (by rfl) ?_
  refine ev_r_aload_n (pc := 1) (k := 0) (v := .ref 621) trivial (by decide +kernel) (by rfl) ?_
  refine ev_r_getC (pc := 2) (y := 270) (ci := 13) (f := 119) (fin := 1) (k' := 707) (by decide +kernel) (by decide +kernel) (by exact ev_ob_621) rfl rfl ?_
  refine ev_r_iload_n (pc := 5) (k := 1) (v := Int32.ofInt a0) (by decide +kernel) (by rfl) ?_
  refine ev_r_iald (pc := 6) ha0 (by decide +kernel) (by exact ev_ab_707) ?_
  intro x1 hx1
  refine ev_r_putI (pc := 7) (y := 567) (ci := 13) (f := 73) hx1 (by decide +kernel) (by decide +kernel) (by exact ev_ob_621) rfl rfl ?_
  intro s2
  refine ev_r_iconst (pc := 10) (k := 0) (by decide +kernel) ?_
  refine ev_r_istore_n (pc := 11) (k := 2) (by decide +kernel) (by decide +kernel) rfl ?_
  exact jlt_288_12 d hd Q a0 ha0   Q 0 (by decide) s2 _ (by exact (ev_l1 (by rfl) (by decide) (by decide))) (by exact (ev_lk_st1 (by rfl) (by decide) rfl)) (by exact ev_lk_st1_self)
/-- MendBenchModel.isWordAt(I)Z -/
def jm_289 (Q : Nat) (a0 : Int) (S : ev_St) : Option ((Int) × ev_St) := ev_b (S.1 621 73) fun x1 => ev_ck (x1 - 1) fun x2 => ev_bd (jm_222 Q a0 0 x2 S) fun x4 s3 => if x4 = 0 then (some (0, s3)) else (ev_if ((0 : Int) ≤ a0 ∧ a0 < (ev_aln 678 : Int)) (ev_b (s3.1 678 (Int.toNat a0)) fun x6 => ev_bd (jm_227 Q x6 s3) fun x8 s7 => if x8 = 0 then (some (0, s7)) else (some (1, s7))))
theorem jt_289 (d : Nat) (hd : 5 ≤ d) (Q : Nat) (a0 : Int) (ha0 : ev_rng a0) (S : ev_St) (x : Int) (S' : ev_St) (hJ : jm_289 Q a0 S = some (x, S')) : ev_Ref d 289 [.ref 621, .int (Int32.ofInt a0)] S (ev_eI x) S' (ev_bl x) := by
  obtain ⟨d, rfl⟩ : ∃ e, d = e + 1 := ⟨d - 1, by omega⟩
  refine ev_ref_of (P := ev_bl) (lv := [(0, .ref 621), (1, .int (Int32.ofInt a0))]) (by decide +kernel) (by (try simp only [ev_sum, ev_nv_cat]); first | done | rfl) (by (try simp only [lv_args, ev_nv_cat]); first | done | rfl) ?_ x S' hJ
  unfold jm_289
  refine ev_r_iload_n (pc := 0) (k := 1) (v := Int32.ofInt a0) (by decide +kernel) (by rfl) ?_
  refine ev_r_iconst (pc := 1) (k := 0) (by decide +kernel) ?_
  refine ev_r_aload_n (pc := 2) (k := 0) (v := .ref 621) trivial (by decide +kernel) (by rfl) ?_
  refine ev_r_getI (pc := 3) (y := 567) (ci := 13) (f := 73) (fin := 0) (by decide +kernel) (by decide +kernel) (by exact ev_ob_621) rfl ?_
  intro x1 hx1
  refine ev_r_iconst (pc := 6) (k := 1) (by decide +kernel) ?_
  refine ev_r_isub (pc := 7) (by decide +kernel) ?_
  intro x2 hx2
  refine ev_r_stat (pc := 8) (y := 325) (kind := 2) (mi := 222) (na := 3) (as := [.int (Int32.ofInt a0), .int (Int32.ofInt 0), .int (Int32.ofInt x2)]) (rest := []) (encc := ev_oI) (Q := ev_bl) (fun x S1 h => jt_222 d (by omega) Q a0 0 x2 ha0 (by decide) hx2 S x S1 h) (Or.inl rfl) (by decide +kernel) (by decide +kernel) (by decide +kernel) (by decide +kernel) rfl (by (try simp only [ev_sum, ev_nv_cat]); first | done | rfl) ?_
  intro x4 s3 hx4
  replace hx4 := ev_bl_rng hx4
  show ev_w _ _ _ _ _ [.int (Int32.ofInt x4)] _ _ _ _
  refine ev_r_if (pc := 11) (q := .eq) (o := 19) (t := 30) (c := x4 = 0) (by decide +kernel) (ev_k_eq hx4 ev_rng0) (by decide +kernel) ?_ ?_
  · intro c5
    refine ev_r_iconst (pc := 30) (k := 0) (by decide +kernel) ?_
    exact ev_r_ireturn (pc := 31) (x := 0) (v := Int32.ofInt 0) (ty := .boolean) (by decide : ev_bl 0) (by decide +kernel) (by decide +kernel) (ev_ret_bl (by decide : ev_bl 0)) rfl
  · intro c5
    refine ev_r_aload_n (pc := 14) (k := 0) (v := .ref 621) trivial (by decide +kernel) (by rfl) ?_
    refine ev_r_getC (pc := 15) (y := 181) (ci := 13) (f := 74) (fin := 1) (k' := 678) (by decide +kernel) (by decide +kernel) (by exact ev_ob_621) rfl rfl ?_
    refine ev_r_iload_n (pc := 18) (k := 1) (v := Int32.ofInt a0) (by decide +kernel) (by rfl) ?_
    refine ev_r_iald (pc := 19) ha0 (by decide +kernel) (by exact ev_ab_678) ?_
    intro x6 hx6
    refine ev_r_stat (pc := 20) (y := 404) (kind := 2) (mi := 227) (na := 1) (as := [.int (Int32.ofInt x6)]) (rest := []) (encc := ev_oI) (Q := ev_bl) (fun x S1 h => jt_227 d (by omega) Q x6 hx6 s3 x S1 h) (Or.inl rfl) (by decide +kernel) (by decide +kernel) (by decide +kernel) (by decide +kernel) rfl (by (try simp only [ev_sum, ev_nv_cat]); first | done | rfl) ?_
    intro x8 s7 hx8
    replace hx8 := ev_bl_rng hx8
    show ev_w _ _ _ _ _ [.int (Int32.ofInt x8)] _ _ _ _
    refine ev_r_if (pc := 23) (q := .eq) (o := 7) (t := 30) (c := x8 = 0) (by decide +kernel) (ev_k_eq hx8 ev_rng0) (by decide +kernel) ?_ ?_
    · intro c9
      refine ev_r_iconst (pc := 30) (k := 0) (by decide +kernel) ?_
      exact ev_r_ireturn (pc := 31) (x := 0) (v := Int32.ofInt 0) (ty := .boolean) (by decide : ev_bl 0) (by decide +kernel) (by decide +kernel) (ev_ret_bl (by decide : ev_bl 0)) rfl
    · intro c9
      refine ev_r_iconst (pc := 26) (k := 1) (by decide +kernel) ?_
      refine ev_r_goto (pc := 27) (o := 4) (t := 31) (by decide +kernel) (by decide +kernel) ?_
      exact ev_r_ireturn (pc := 31) (x := 1) (v := Int32.ofInt 1) (ty := .boolean) (by decide : ev_bl 1) (by decide +kernel) (by decide +kernel) (ev_ret_bl (by decide : ev_bl 1)) rfl
/-- MendBenchModel.step1()V -/
def jm_290 (Q : Nat)  (S : ev_St) : Option ((Unit) × ev_St) := ev_b (S.1 621 75) fun x1 => ev_ck (x1 + 1) fun x2 => ev_b (ev_pI S 621 75 x2) fun s3 => ev_b (s3.1 621 76) fun x4 => if x4 ≠ 0 then (ev_b (ev_pI s3 621 76 1) fun s6 => some ((), s6)) else (ev_b (s3.1 621 75) fun x7 => if x7 ≤ 1000 then (ev_b (ev_pI s3 621 76 0) fun s9 => some ((), s9)) else (ev_b (ev_pI s3 621 76 1) fun s10 => some ((), s10)))
theorem jt_290 (d : Nat) (hd : 1 ≤ d) (Q : Nat)   (S : ev_St) (x : Unit) (S' : ev_St) (hJ : jm_290 Q  S = some (x, S')) : ev_Ref d 290 [.ref 621] S (ev_eU x) S' (ev_PU x) := by
  obtain ⟨d, rfl⟩ : ∃ e, d = e + 1 := ⟨d - 1, by omega⟩
  refine ev_ref_of (P := ev_PU) (lv := [(0, .ref 621)]) (by decide +kernel) (by (try simp only [ev_sum, ev_nv_cat]); first | done | rfl) (by (try simp only [lv_args, ev_nv_cat]); first | done | rfl) ?_ x S' hJ
  unfold jm_290
  refine ev_r_aload_n (pc := 0) (k := 0) (v := .ref 621) trivial (by decide +kernel) (by rfl) ?_
  refine ev_r_dup (pc := 1) rfl (by decide +kernel) ?_
  refine ev_r_getI (pc := 2) (y := 570) (ci := 13) (f := 75) (fin := 0) (by decide +kernel) (by decide +kernel) (by exact ev_ob_621) rfl ?_
  intro x1 hx1
  refine ev_r_iconst (pc := 5) (k := 1) (by decide +kernel) ?_
  refine ev_r_iadd (pc := 6) (by decide +kernel) ?_
  intro x2 hx2
  refine ev_r_putI (pc := 7) (y := 570) (ci := 13) (f := 75) hx2 (by decide +kernel) (by decide +kernel) (by exact ev_ob_621) rfl rfl ?_
  intro s3
  refine ev_r_aload_n (pc := 10) (k := 0) (v := .ref 621) trivial (by decide +kernel) (by rfl) ?_
  refine ev_r_aload_n (pc := 11) (k := 0) (v := .ref 621) trivial (by decide +kernel) (by rfl) ?_
  refine ev_r_getI (pc := 12) (y := 573) (ci := 13) (f := 76) (fin := 0) (by decide +kernel) (by decide +kernel) (by exact ev_ob_621) rfl ?_
  intro x4 hx4
  refine ev_r_if (pc := 15) (q := .ne) (o := 13) (t := 28) (c := x4 ≠ 0) (by decide +kernel) (ev_k_ne hx4 ev_rng0) (by decide +kernel) ?_ ?_
  · intro c5
    refine ev_r_iconst (pc := 28) (k := 1) (by decide +kernel) ?_
    refine ev_r_goto (pc := 29) (o := 4) (t := 33) (by decide +kernel) (by decide +kernel) ?_
    refine ev_r_putI (pc := 33) (y := 573) (ci := 13) (f := 76) (by decide) (by decide +kernel) (by decide +kernel) (by exact ev_ob_621) rfl (ev_fit_bl (by decide : ev_bl 1)) ?_
    intro s6
    exact ev_r_return (pc := 36) (x := ()) trivial (by decide +kernel) (by decide +kernel) rfl
  · intro c5
    refine ev_r_aload_n (pc := 18) (k := 0) (v := .ref 621) trivial (by decide +kernel) (by rfl) ?_
    refine ev_r_getI (pc := 19) (y := 570) (ci := 13) (f := 75) (fin := 0) (by decide +kernel) (by decide +kernel) (by exact ev_ob_621) rfl ?_
    intro x7 hx7
    refine ev_r_sipush (pc := 22) (k := 1000) (by decide +kernel) (by decide +kernel) ?_
    refine ev_r_icmp (pc := 25) (q := .le) (o := 7) (t := 32) (c := x7 ≤ 1000) (by decide +kernel) (ev_k_le hx7 (by decide)) (by decide +kernel) ?_ ?_
    · intro c8
      refine ev_r_iconst (pc := 32) (k := 0) (by decide +kernel) ?_
      refine ev_r_putI (pc := 33) (y := 573) (ci := 13) (f := 76) (by decide) (by decide +kernel) (by decide +kernel) (by exact ev_ob_621) rfl (ev_fit_bl (by decide : ev_bl 0)) ?_
      intro s9
      exact ev_r_return (pc := 36) (x := ()) trivial (by decide +kernel) (by decide +kernel) rfl
    · intro c8
      refine ev_r_iconst (pc := 28) (k := 1) (by decide +kernel) ?_
      refine ev_r_goto (pc := 29) (o := 4) (t := 33) (by decide +kernel) (by decide +kernel) ?_
      refine ev_r_putI (pc := 33) (y := 573) (ci := 13) (f := 76) (by decide) (by decide +kernel) (by decide +kernel) (by exact ev_ob_621) rfl (ev_fit_bl (by decide : ev_bl 1)) ?_
      intro s10
      exact ev_r_return (pc := 36) (x := ()) trivial (by decide +kernel) (by decide +kernel) rfl
/-- MendBenchModel.frame(IIIIII)I -/
def jm_291 (Q : Nat) (a0 : Int) (a1 : Int) (a2 : Int) (a3 : Int) (a4 : Int) (a5 : Int) (S : ev_St) : Option ((Int) × ev_St) := ev_b (S.1 621 88) fun x1 => ev_if ((0 : Int) ≤ x1 ∧ x1 < (ev_aln 681 : Int)) (ev_b (ev_pI S 681 (Int.toNat x1) a0) fun s2 => ev_b (s2.1 621 88) fun x3 => ev_if ((0 : Int) ≤ x3 ∧ x3 < (ev_aln 682 : Int)) (ev_b (ev_pI s2 682 (Int.toNat x3) a1) fun s4 => ev_b (s4.1 621 88) fun x5 => ev_if ((0 : Int) ≤ x5 ∧ x5 < (ev_aln 683 : Int)) (ev_b (ev_pI s4 683 (Int.toNat x5) a2) fun s6 => ev_b (s6.1 621 88) fun x7 => ev_if ((0 : Int) ≤ x7 ∧ x7 < (ev_aln 684 : Int)) (ev_b (ev_pI s6 684 (Int.toNat x7) a3) fun s8 => ev_b (s8.1 621 88) fun x9 => ev_if ((0 : Int) ≤ x9 ∧ x9 < (ev_aln 685 : Int)) (ev_b (ev_pI s8 685 (Int.toNat x9) a4) fun s10 => ev_b (s10.1 621 88) fun x11 => ev_if ((0 : Int) ≤ x11 ∧ x11 < (ev_aln 686 : Int)) (ev_b (ev_pI s10 686 (Int.toNat x11) a5) fun s12 => ev_b (s12.1 621 88) fun x13 => ev_ck (x13 + 1) fun x14 => ev_b (ev_pI s12 621 88 x14) fun s15 => ev_b (s15.1 621 88) fun x16 => ev_ck (x16 - 1) fun x17 => some (x17, s15)))))))
theorem jt_291 (d : Nat) (hd : 1 ≤ d) (Q : Nat) (a0 : Int) (a1 : Int) (a2 : Int) (a3 : Int) (a4 : Int) (a5 : Int) (ha0 : ev_rng a0) (ha1 : ev_rng a1) (ha2 : ev_rng a2) (ha3 : ev_rng a3) (ha4 : ev_rng a4) (ha5 : ev_rng a5) (S : ev_St) (x : Int) (S' : ev_St) (hJ : jm_291 Q a0 a1 a2 a3 a4 a5 S = some (x, S')) : ev_Ref d 291 [.ref 621, .int (Int32.ofInt a0), .int (Int32.ofInt a1), .int (Int32.ofInt a2), .int (Int32.ofInt a3), .int (Int32.ofInt a4), .int (Int32.ofInt a5)] S (ev_eI x) S' (ev_rng x) := by
  obtain ⟨d, rfl⟩ : ∃ e, d = e + 1 := ⟨d - 1, by omega⟩
  refine ev_ref_of (P := ev_rng) (lv := [(0, .ref 621), (1, .int (Int32.ofInt a0)), (2, .int (Int32.ofInt a1)), (3, .int (Int32.ofInt a2)), (4, .int (Int32.ofInt a3)), (5, .int (Int32.ofInt a4)), (6, .int (Int32.ofInt a5))]) (by decide +kernel) (by (try simp only [ev_sum, ev_nv_cat]); first | done | rfl) (by (try simp only [lv_args, ev_nv_cat]); first | done | rfl) ?_ x S' hJ
  unfold jm_291
  refine ev_r_aload_n (pc := 0) (k := 0) (v := .ref 621) trivial (by decide +kernel) (by rfl) ?_
  refine ev_r_getC (pc := 1) (y := 191) (ci := 13) (f := 89) (fin := 1) (k' := 681) (by decide +kernel) (by decide +kernel) (by exact ev_ob_621) rfl rfl ?_
  refine ev_r_aload_n (pc := 4) (k := 0) (v := .ref 621) trivial (by decide +kernel) (by rfl) ?_
  refine ev_r_getI (pc := 5) (y := 576) (ci := 13) (f := 88) (fin := 0) (by decide +kernel) (by decide +kernel) (by exact ev_ob_621) rfl ?_
  intro x1 hx1
  refine ev_r_iload_n (pc := 8) (k := 1) (v := Int32.ofInt a0) (by decide +kernel) (by rfl) ?_
  refine ev_r_iast (pc := 9) ha0 hx1 (by decide +kernel) (by exact ev_ab_681) ?_
  intro s2
  refine ev_r_aload_n (pc := 10) (k := 0) (v := .ref 621) trivial (by decide +kernel) (by rfl) ?_
  refine ev_r_getC (pc := 11) (y := 194) (ci := 13) (f := 90) (fin := 1) (k' := 682) (by decide +kernel) (by decide +kernel) (by exact ev_ob_621) rfl rfl ?_
  refine ev_r_aload_n (pc := 14) (k := 0) (v := .ref 621) trivial (by decide +kernel) (by rfl) ?_
  refine ev_r_getI (pc := 15) (y := 576) (ci := 13) (f := 88) (fin := 0) (by decide +kernel) (by decide +kernel) (by exact ev_ob_621) rfl ?_
  intro x3 hx3
  refine ev_r_iload_n (pc := 18) (k := 2) (v := Int32.ofInt a1) (by decide +kernel) (by rfl) ?_
  refine ev_r_iast (pc := 19) ha1 hx3 (by decide +kernel) (by exact ev_ab_682) ?_
  intro s4
  refine ev_r_aload_n (pc := 20) (k := 0) (v := .ref 621) trivial (by decide +kernel) (by rfl) ?_
  refine ev_r_getC (pc := 21) (y := 197) (ci := 13) (f := 91) (fin := 1) (k' := 683) (by decide +kernel) (by decide +kernel) (by exact ev_ob_621) rfl rfl ?_
  refine ev_r_aload_n (pc := 24) (k := 0) (v := .ref 621) trivial (by decide +kernel) (by rfl) ?_
  refine ev_r_getI (pc := 25) (y := 576) (ci := 13) (f := 88) (fin := 0) (by decide +kernel) (by decide +kernel) (by exact ev_ob_621) rfl ?_
  intro x5 hx5
  refine ev_r_iload_n (pc := 28) (k := 3) (v := Int32.ofInt a2) (by decide +kernel) (by rfl) ?_
  refine ev_r_iast (pc := 29) ha2 hx5 (by decide +kernel) (by exact ev_ab_683) ?_
  intro s6
  refine ev_r_aload_n (pc := 30) (k := 0) (v := .ref 621) trivial (by decide +kernel) (by rfl) ?_
  refine ev_r_getC (pc := 31) (y := 200) (ci := 13) (f := 92) (fin := 1) (k' := 684) (by decide +kernel) (by decide +kernel) (by exact ev_ob_621) rfl rfl ?_
  refine ev_r_aload_n (pc := 34) (k := 0) (v := .ref 621) trivial (by decide +kernel) (by rfl) ?_
  refine ev_r_getI (pc := 35) (y := 576) (ci := 13) (f := 88) (fin := 0) (by decide +kernel) (by decide +kernel) (by exact ev_ob_621) rfl ?_
  intro x7 hx7
  refine ev_r_iload (pc := 38) (k := 4) (v := Int32.ofInt a3) (by decide +kernel) (by rfl) ?_
  refine ev_r_iast (pc := 40) ha3 hx7 (by decide +kernel) (by exact ev_ab_684) ?_
  intro s8
  refine ev_r_aload_n (pc := 41) (k := 0) (v := .ref 621) trivial (by decide +kernel) (by rfl) ?_
  refine ev_r_getC (pc := 42) (y := 203) (ci := 13) (f := 93) (fin := 1) (k' := 685) (by decide +kernel) (by decide +kernel) (by exact ev_ob_621) rfl rfl ?_
  refine ev_r_aload_n (pc := 45) (k := 0) (v := .ref 621) trivial (by decide +kernel) (by rfl) ?_
  refine ev_r_getI (pc := 46) (y := 576) (ci := 13) (f := 88) (fin := 0) (by decide +kernel) (by decide +kernel) (by exact ev_ob_621) rfl ?_
  intro x9 hx9
  refine ev_r_iload (pc := 49) (k := 5) (v := Int32.ofInt a4) (by decide +kernel) (by rfl) ?_
  refine ev_r_iast (pc := 51) ha4 hx9 (by decide +kernel) (by exact ev_ab_685) ?_
  intro s10
  refine ev_r_aload_n (pc := 52) (k := 0) (v := .ref 621) trivial (by decide +kernel) (by rfl) ?_
  refine ev_r_getC (pc := 53) (y := 206) (ci := 13) (f := 94) (fin := 1) (k' := 686) (by decide +kernel) (by decide +kernel) (by exact ev_ob_621) rfl rfl ?_
  refine ev_r_aload_n (pc := 56) (k := 0) (v := .ref 621) trivial (by decide +kernel) (by rfl) ?_
  refine ev_r_getI (pc := 57) (y := 576) (ci := 13) (f := 88) (fin := 0) (by decide +kernel) (by decide +kernel) (by exact ev_ob_621) rfl ?_
  intro x11 hx11
  refine ev_r_iload (pc := 60) (k := 6) (v := Int32.ofInt a5) (by decide +kernel) (by rfl) ?_
  refine ev_r_iast (pc := 62) ha5 hx11 (by decide +kernel) (by exact ev_ab_686) ?_
  intro s12
  refine ev_r_aload_n (pc := 63) (k := 0) (v := .ref 621) trivial (by decide +kernel) (by rfl) ?_
  refine ev_r_dup (pc := 64) rfl (by decide +kernel) ?_
  refine ev_r_getI (pc := 65) (y := 576) (ci := 13) (f := 88) (fin := 0) (by decide +kernel) (by decide +kernel) (by exact ev_ob_621) rfl ?_
  intro x13 hx13
  refine ev_r_iconst (pc := 68) (k := 1) (by decide +kernel) ?_
  refine ev_r_iadd (pc := 69) (by decide +kernel) ?_
  intro x14 hx14
  refine ev_r_putI (pc := 70) (y := 576) (ci := 13) (f := 88) hx14 (by decide +kernel) (by decide +kernel) (by exact ev_ob_621) rfl rfl ?_
  intro s15
  refine ev_r_aload_n (pc := 73) (k := 0) (v := .ref 621) trivial (by decide +kernel) (by rfl) ?_
  refine ev_r_getI (pc := 74) (y := 576) (ci := 13) (f := 88) (fin := 0) (by decide +kernel) (by decide +kernel) (by exact ev_ob_621) rfl ?_
  intro x16 hx16
  refine ev_r_iconst (pc := 77) (k := 1) (by decide +kernel) ?_
  refine ev_r_isub (pc := 78) (by decide +kernel) ?_
  intro x17 hx17
  exact ev_r_ireturn (pc := 79) (x := x17) (v := Int32.ofInt x17) (ty := .int) hx17 (by decide +kernel) (by decide +kernel) rfl rfl
