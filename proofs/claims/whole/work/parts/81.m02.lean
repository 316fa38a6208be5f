/-! METHODS as functions, laid by decomp.py -/
theorem ev_ob_221 : ev_isOb 221 2 = true := (by decide +kernel)
theorem ev_fo_5_3 {k : Nat} (h : ev_isOb k 5 = true) : ev_isAb (k + 4) 1 .int = true := ev_foA (by decide +kernel) h
theorem ev_fo_5_1 {k : Nat} (h : ev_isOb k 5 = true) : ev_isAb (k + 2) 1 .int = true := ev_foA (by decide +kernel) h
theorem ev_fo_5_2 {k : Nat} (h : ev_isOb k 5 = true) : ev_isAb (k + 3) 1 .int = true := ev_foA (by decide +kernel) h
theorem ev_ab_222 : ev_isAb 222 1 .int = true := (by decide +kernel)
theorem ev_ab_223 : ev_isAb 223 1 .int = true := (by decide +kernel)
theorem ev_ab_227 : ev_isAb 227 2 .long = true := (by decide +kernel)
theorem ev_ab_226 : ev_isAb 226 2 .long = true := (by decide +kernel)
theorem ev_ab_225 : ev_isAb 225 2 .long = true := (by decide +kernel)
theorem ev_ab_224 : ev_isAb 224 2 .long = true := (by decide +kernel)
theorem ev_fo_5_4 {k : Nat} (h : ev_isOb k 5 = true) : ev_isAb (k + 5) 1 .int = true := ev_foA (by decide +kernel) h
theorem ev_fo_5_0 {k : Nat} (h : ev_isOb k 5 = true) : ev_isAb (k + 1) 1 .int = true := ev_foA (by decide +kernel) h
theorem ev_fo_5_7 {k : Nat} (h : ev_isOb k 5 = true) : ev_isAb (k + 8) 2 .long = true := ev_foA (by decide +kernel) h
theorem ev_fo_5_8 {k : Nat} (h : ev_isOb k 5 = true) : ev_isAb (k + 9) 2 .long = true := ev_foA (by decide +kernel) h
theorem ev_fo_5_9 {k : Nat} (h : ev_isOb k 5 = true) : ev_isAb (k + 10) 1 .int = true := ev_foA (by decide +kernel) h
theorem ev_ob_230 : ev_isOb 230 10 = true := (by decide +kernel)
theorem ev_fo_5_20 {k : Nat} (h : ev_isOb k 5 = true) : ev_isOb (k + 18) 10 = true := ev_foO (by decide +kernel) h
theorem ev_fo_5_6 {k : Nat} (h : ev_isOb k 5 = true) : ev_isAb (k + 7) 1 .int = true := ev_foA (by decide +kernel) h
theorem ev_fo_5_5 {k : Nat} (h : ev_isOb k 5 = true) : ev_isAb (k + 6) 1 .int = true := ev_foA (by decide +kernel) h
theorem ev_fo_6_0 {k : Nat} (h : ev_isOb k 6 = true) : ev_isAb (k + 1) 1 .int = true := ev_foA (by decide +kernel) h
theorem ev_fo_6_1 {k : Nat} (h : ev_isOb k 6 = true) : ev_isAb (k + 2) 1 .int = true := ev_foA (by decide +kernel) h
theorem ev_fo_6_2 {k : Nat} (h : ev_isOb k 6 = true) : ev_isAb (k + 3) 2 .long = true := ev_foA (by decide +kernel) h
theorem ev_fo_6_3 {k : Nat} (h : ev_isOb k 6 = true) : ev_isAb (k + 4) 2 .long = true := ev_foA (by decide +kernel) h
def jb_18_32 (Q : Nat)   (K32 : Int → ev_St → Option ((Int) × ev_St)) (x9 : Int) (s13 : ev_St) : Option ((Int) × ev_St) := if 160 ≤ x9 then (some ((-1), s13)) else (ev_b (s13.1 6 7) fun x15 => if 0 ≤ x15 then (ev_bd (jm_21 Q  s13) fun x18 s17 => if x18 ≠ 0 then (ev_ck (x9 + 1) fun x20 => K32 x20 s17) else (some ((-1), s17))) else (ev_b (s13.1 6 9) fun x21 => some (x21, s13)))
def jl_18_32 (Q : Nat)   : Nat → Int → ev_St → Option ((Int) × ev_St)
  | 0 => fun _ _ => none
  | q + 1 => jb_18_32 Q   (jl_18_32 Q   q)
theorem jbt_18_32 (d : Nat) (hd : 5 ≤ d + 1) (Q : Nat)     (K32 : Int → ev_St → Option ((Int) × ev_St)) (hK32 : ∀ (x9 : Int) (hx9 : ev_rng x9), ∀ (s13 : ev_St) (w10 : List (Nat × Value)), ev_lk w10 0 = some (.ref 6) → ev_lk w10 4 = some (.int (Int32.ofInt x9)) → ev_w none (ev_Mof 18) d 32 w10 [] s13 (K32 x9 s13) ev_eI ev_rng) : ∀ (x9 : Int) (hx9 : ev_rng x9), ∀ (s13 : ev_St) (w10 : List (Nat × Value)), ev_lk w10 0 = some (.ref 6) → ev_lk w10 4 = some (.int (Int32.ofInt x9)) → ev_w none (ev_Mof 18) d 32 w10 [] s13 (jb_18_32 Q   K32 x9 s13) ev_eI ev_rng := by
  intro x9 hx9 s13 w10 e11 e12
  unfold jb_18_32
  refine ev_r_iload (pc := 32) (k := 4) (v := Int32.ofInt x9) (by decide +kernel) (by exact e12) ?_
  refine ev_r_sipush (pc := 34) (k := 160) (by decide +kernel) (by decide +kernel) ?_
  refine ev_r_icmp (pc := 37) (q := .ge) (o := 30) (t := 67) (c := 160 ≤ x9) (by decide +kernel) (ev_k_ge hx9 (by decide)) (by decide +kernel) ?_ ?_
  · intro c14
    refine ev_r_iconst (pc := 67) (k := -1) (by decide +kernel) ?_
    exact ev_r_ireturn (pc := 68) (x := (-1)) (v := Int32.ofInt ((-1))) (ty := .int) (by decide) (by decide +kernel) (by decide +kernel) rfl rfl
  · intro c14
    refine ev_r_aload_n (pc := 40) (k := 0) (v := .ref 6) trivial (by decide +kernel) (by exact e11) ?_
    refine ev_r_getI (pc := 41) (y := 47) (ci := 1) (f := 7) (fin := 0) (by decide +kernel) (by decide +kernel) (by exact ev_ob_6) rfl ?_
    intro x15 hx15
    refine ev_r_if (pc := 44) (q := .ge) (o := 8) (t := 52) (c := 0 ≤ x15) (by decide +kernel) (ev_k_ge hx15 ev_rng0) (by decide +kernel) ?_ ?_
    · intro c16
      refine ev_r_aload_n (pc := 52) (k := 0) (v := .ref 6) trivial (by decide +kernel) (by exact e11) ?_
      refine ev_r_virt (pc := 53) (y := 56) (mi := 21) (na := 0) (k := 6) (as := []) (rest := []) (encc := ev_oI) (Q := ev_bl) (fun x S1 h => jt_21 d (by omega) Q   s13 x S1 h) (by exact ev_ob_6) (by decide +kernel) (by decide +kernel) (by decide +kernel) (by decide +kernel) rfl (by (try simp only [ev_sum, ev_nv_cat]); first | done | rfl) ?_
      intro x18 s17 hx18
      replace hx18 := ev_bl_rng hx18
      show ev_w _ _ _ _ _ [.int (Int32.ofInt x18)] _ _ _ _
      refine ev_r_if (pc := 56) (q := .ne) (o := 5) (t := 61) (c := x18 ≠ 0) (by decide +kernel) (ev_k_ne hx18 ev_rng0) (by decide +kernel) ?_ ?_
      · intro c19
        refine ev_r_iinc (pc := 61) (k := 4) (c := 1) (x := x9) (by decide +kernel) (by decide +kernel) (by exact e12) (fun _ => rfl) ?_
        intro x20 hx20
        refine ev_r_goto (pc := 64) (o := (-32)) (t := 32) (by decide +kernel) (by decide +kernel) ?_
        exact hK32 x20 hx20 s17 _ (by exact (ev_l1 e11 (by decide) (by decide))) (by exact ev_lk_st1_self)
      · intro c19
        refine ev_r_iconst (pc := 59) (k := -1) (by decide +kernel) ?_
        exact ev_r_ireturn (pc := 60) (x := (-1)) (v := Int32.ofInt ((-1))) (ty := .int) (by decide) (by decide +kernel) (by decide +kernel) rfl rfl
    · intro c16
      refine ev_r_aload_n (pc := 47) (k := 0) (v := .ref 6) trivial (by decide +kernel) (by exact e11) ?_
      refine ev_r_getI (pc := 48) (y := 39) (ci := 1) (f := 9) (fin := 0) (by decide +kernel) (by decide +kernel) (by exact ev_ob_6) rfl ?_
      intro x21 hx21
      exact ev_r_ireturn (pc := 51) (x := x21) (v := Int32.ofInt x21) (ty := .int) hx21 (by decide +kernel) (by decide +kernel) rfl rfl
theorem jlt_18_32 (d : Nat) (hd : 5 ≤ d + 1) (Q : Nat)     : ∀ q : Nat, ∀ (x9 : Int) (hx9 : ev_rng x9), ∀ (s13 : ev_St) (w10 : List (Nat × Value)), ev_lk w10 0 = some (.ref 6) → ev_lk w10 4 = some (.int (Int32.ofInt x9)) → ev_w none (ev_Mof 18) d 32 w10 [] s13 (jl_18_32 Q   q x9 s13) ev_eI ev_rng := by
  intro q
  induction q with
  | zero =>
    intro x9 hx9 s13 w10 e11 e12
    exact ev_w_none
  | succ q ih => exact jbt_18_32 d hd Q     _ ih
/-- MendBench$ClassReader.read(LMendBench$Text;IZ)I -/
def jm_18 (Q : Nat) (a0 : Nat) (a1 : Int) (a2 : Int) (S : ev_St) : Option ((Int) × ev_St) := ev_b (ev_pR S 6 8 a0) fun s1 => ev_b (ev_pI s1 6 9 a1) fun s2 => ev_if (ev_bl a2) (ev_b (ev_pI s2 6 10 a2) fun s3 => ev_b (ev_pI s3 6 7 ((-1))) fun s5 => ev_bd (jm_19 Q  s5) fun x7 s6 => if x7 ≠ 0 then (jl_18_32 Q   Q 0 s6) else (some ((-1), s6)))
theorem jt_18 (d : Nat) (hd : 5 ≤ d) (Q : Nat) (a0 : Nat) (a1 : Int) (a2 : Int) (ha0 : a0 = 0 ∨ ev_isOb (a0 - 1) 10 = true) (ha1 : ev_rng a1) (ha2 : ev_rng a2) (S : ev_St) (x : Int) (S' : ev_St) (hJ : jm_18 Q a0 a1 a2 S = some (x, S')) : ev_Ref d 18 [.ref 6, ev_nv a0, .int (Int32.ofInt a1), .int (Int32.ofInt a2)] S (ev_eI x) S' (ev_rng x) := by
  obtain ⟨d, rfl⟩ : ∃ e, d = e + 1 := ⟨d - 1, by omega⟩
  refine ev_ref_of (P := ev_rng) (lv := [(0, .ref 6), (1, ev_nv a0), (2, .int (Int32.ofInt a1)), (3, .int (Int32.ofInt a2))]) (by decide +kernel) (by (try simp only [ev_sum, ev_nv_cat]); first | done | rfl) (by (try simp only [lv_args, ev_nv_cat]); first | done | rfl) ?_ x S' hJ
  unfold jm_18
  refine ev_r_aload_n (pc := 0) (k := 0) (v := .ref 6) trivial (by decide +kernel) (by rfl) ?_
  refine ev_r_aload_n (pc := 1) (k := 1) (v := ev_nv a0) (ev_isR_nv _) (by decide +kernel) (by rfl) ?_
  refine ev_r_putR (pc := 2) (y := 35) (ci := 1) (f := 8) (r := a0) (t := 10) (by exact ha0) (by decide +kernel) (by decide +kernel) (by exact ev_ob_6) rfl rfl (by cases a0 <;> rfl) ?_
  intro s1
  refine ev_r_aload_n (pc := 5) (k := 0) (v := .ref 6) trivial (by decide +kernel) (by rfl) ?_
  refine ev_r_iload_n (pc := 6) (k := 2) (v := Int32.ofInt a1) (by decide +kernel) (by rfl) ?_
  refine ev_r_putI (pc := 7) (y := 39) (ci := 1) (f := 9) ha1 (by decide +kernel) (by decide +kernel) (by exact ev_ob_6) rfl rfl ?_
  intro s2
  refine ev_r_aload_n (pc := 10) (k := 0) (v := .ref 6) trivial (by decide +kernel) (by rfl) ?_
  refine ev_r_iload_n (pc := 11) (k := 3) (v := Int32.ofInt a2) (by decide +kernel) (by rfl) ?_
  refine ev_r_chk ?_
  intro c4
  refine ev_r_putI (pc := 12) (y := 43) (ci := 1) (f := 10) ha2 (by decide +kernel) (by decide +kernel) (by exact ev_ob_6) rfl (ev_fit_bl c4) ?_
  intro s3
  refine ev_r_aload_n (pc := 15) (k := 0) (v := .ref 6) trivial (by decide +kernel) (by rfl) ?_
  refine ev_r_iconst (pc := 16) (k := -1) (by decide +kernel) ?_
  refine ev_r_putI (pc := 17) (y := 47) (ci := 1) (f := 7) (by decide) (by decide +kernel) (by decide +kernel) (by exact ev_ob_6) rfl rfl ?_
  intro s5
  refine ev_r_aload_n (pc := 20) (k := 0) (v := .ref 6) trivial (by decide +kernel) (by rfl) ?_
  refine ev_r_virt (pc := 21) (y := 50) (mi := 19) (na := 0) (k := 6) (as := []) (rest := []) (encc := ev_oI) (Q := ev_bl) (fun x S1 h => jt_19 d (by omega) Q   s5 x S1 h) (by exact ev_ob_6) (by decide +kernel) (by decide +kernel) (by decide +kernel) (by decide +kernel) rfl (by (try simp only [ev_sum, ev_nv_cat]); first | done | rfl) ?_
  intro x7 s6 hx7
  replace hx7 := ev_bl_rng hx7
  show ev_w _ _ _ _ _ [.int (Int32.ofInt x7)] _ _ _ _
  refine ev_r_if (pc := 24) (q := .ne) (o := 5) (t := 29) (c := x7 ≠ 0) (by decide +kernel) (ev_k_ne hx7 ev_rng0) (by decide +kernel) ?_ ?_
  · intro c8
    refine ev_r_iconst (pc := 29) (k := 0) (by decide +kernel) ?_
    refine ev_r_istore (pc := 30) (k := 4) (by decide +kernel) (by decide +kernel) rfl ?_
    exact jlt_18_32 d hd Q     Q 0 (by decide) s6 _ (by exact (ev_l1 (by rfl) (by decide) (by decide))) (by exact ev_lk_st1_self)
  · intro c8
    refine ev_r_iconst (pc := 27) (k := -1) (by decide +kernel) ?_
    exact ev_r_ireturn (pc := 28) (x := (-1)) (v := Int32.ofInt ((-1))) (ty := .int) (by decide) (by decide +kernel) (by decide +kernel) rfl rfl
/-- MendBench$Facts.put([JIJJ)V -/
def jm_36 (Q : Nat) (a0 : Nat) (a1 : Int) (a2 : Int64) (a3 : Int64) (S : ev_St) : Option ((Unit) × ev_St) := if a1 < 0 then (some ((), S)) else (ev_ck (2 * a1) fun x2 => ev_ck (x2 + 1) fun x3 => ev_if (a0 ≠ 0) (ev_b (ev_aln ((a0 - 1)) : Int) fun x5 => if x5 ≤ x3 then (some ((), S)) else (ev_ck (2 * a1) fun x7 => ev_if (a0 ≠ 0) (ev_if ((0 : Int) ≤ x7 ∧ x7 < (ev_aln ((a0 - 1)) : Int)) (ev_b (ev_pL S ((a0 - 1)) (Int.toNat x7) a2) fun s9 => ev_ck (2 * a1) fun x10 => ev_ck (x10 + 1) fun x11 => ev_if (a0 ≠ 0) (ev_if ((0 : Int) ≤ x11 ∧ x11 < (ev_aln ((a0 - 1)) : Int)) (ev_b (ev_pL s9 ((a0 - 1)) (Int.toNat x11) a3) fun s13 => some ((), s13))))))))
theorem jt_36 (d : Nat) (hd : 1 ≤ d) (Q : Nat) (a0 : Nat) (a1 : Int) (a2 : Int64) (a3 : Int64) (ha0 : a0 = 0 ∨ ev_isAb (a0 - 1) 2 .long = true) (ha1 : ev_rng a1) (S : ev_St) (x : Unit) (S' : ev_St) (hJ : jm_36 Q a0 a1 a2 a3 S = some (x, S')) : ev_Ref d 36 [.ref 221, ev_nv a0, .int (Int32.ofInt a1), .long a2, .long a3] S (ev_eU x) S' (ev_PU x) := by
  obtain ⟨d, rfl⟩ : ∃ e, d = e + 1 := ⟨d - 1, by omega⟩
  refine ev_ref_of (P := ev_PU) (lv := [(0, .ref 221), (1, ev_nv a0), (2, .int (Int32.ofInt a1)), (3, .long a2), (5, .long a3)]) (by decide +kernel) (by (try simp only [ev_sum, ev_nv_cat]); first | done | rfl) (by (try simp only [lv_args, ev_nv_cat]); first | done | rfl) ?_ x S' hJ
  unfold jm_36
  refine ev_r_iload_n (pc := 0) (k := 2) (v := Int32.ofInt a1) (by decide +kernel) (by rfl) ?_
  refine ev_r_if (pc := 1) (q := .lt) (o := 28) (t := 29) (c := a1 < 0) (by decide +kernel) (ev_k_lt ha1 ev_rng0) (by decide +kernel) ?_ ?_
  · intro c1
    exact ev_r_return (pc := 29) (x := ()) trivial (by decide +kernel) (by decide +kernel) rfl
  · intro c1
    refine ev_r_iconst (pc := 4) (k := 2) (by decide +kernel) ?_
    refine ev_r_iload_n (pc := 5) (k := 2) (v := Int32.ofInt a1) (by decide +kernel) (by rfl) ?_
    refine ev_r_imul (pc := 6) (by decide +kernel) ?_
    intro x2 hx2
    refine ev_r_iconst (pc := 7) (k := 1) (by decide +kernel) ?_
    refine ev_r_iadd (pc := 8) (by decide +kernel) ?_
    intro x3 hx3
    refine ev_r_aload_n (pc := 9) (k := 1) (v := ev_nv a0) (ev_isR_nv _) (by decide +kernel) (by rfl) ?_
    refine ev_r_chk ?_
    intro c4
    refine ev_r_dr (r := a0) (fun v => [v, .int (Int32.ofInt x3)]) c4 ?_
    refine ev_r_alen (pc := 10) (kd := 2) (ty := .long) (Or.inr rfl) (by decide +kernel) (by exact (ha0.resolve_left c4)) ?_
    intro x5 hx5
    refine ev_r_icmp (pc := 11) (q := .ge) (o := 18) (t := 29) (c := x5 ≤ x3) (by decide +kernel) (ev_k_ge hx3 hx5) (by decide +kernel) ?_ ?_
    · intro c6
      exact ev_r_return (pc := 29) (x := ()) trivial (by decide +kernel) (by decide +kernel) rfl
    · intro c6
      refine ev_r_aload_n (pc := 14) (k := 1) (v := ev_nv a0) (ev_isR_nv _) (by decide +kernel) (by rfl) ?_
      refine ev_r_iconst (pc := 15) (k := 2) (by decide +kernel) ?_
      refine ev_r_iload_n (pc := 16) (k := 2) (v := Int32.ofInt a1) (by decide +kernel) (by rfl) ?_
      refine ev_r_imul (pc := 17) (by decide +kernel) ?_
      intro x7 hx7
      refine ev_r_lload_n (pc := 18) (k := 3) (v := a2) (by decide +kernel) (by rfl) ?_
      refine ev_r_chk ?_
      intro c8
      refine ev_r_dr (r := a0) (fun v => [.long a2, .int (Int32.ofInt x7), v]) c8 ?_
      refine ev_r_last (pc := 19) hx7 (by decide +kernel) (by exact (ha0.resolve_left c8)) ?_
      intro s9
      refine ev_r_aload_n (pc := 20) (k := 1) (v := ev_nv a0) (ev_isR_nv _) (by decide +kernel) (by rfl) ?_
      refine ev_r_iconst (pc := 21) (k := 2) (by decide +kernel) ?_
      refine ev_r_iload_n (pc := 22) (k := 2) (v := Int32.ofInt a1) (by decide +kernel) (by rfl) ?_
      refine ev_r_imul (pc := 23) (by decide +kernel) ?_
      intro x10 hx10
      refine ev_r_iconst (pc := 24) (k := 1) (by decide +kernel) ?_
      refine ev_r_iadd (pc := 25) (by decide +kernel) ?_
      intro x11 hx11
      refine ev_r_lload (pc := 26) (k := 5) (v := a3) (by decide +kernel) (by rfl) ?_
      refine ev_r_chk ?_
      intro c12
      refine ev_r_dr (r := a0) (fun v => [.long a3, .int (Int32.ofInt x11), v]) c12 ?_
      refine ev_r_last (pc := 28) hx11 (by decide +kernel) (by exact (ha0.resolve_left c12)) ?_
      intro s13
      exact ev_r_return (pc := 29) (x := ()) trivial (by decide +kernel) (by decide +kernel) rfl
/-- MendBench$Facts.empty([JI)V -/
def jm_35 (Q : Nat) (a0 : Nat) (a1 : Int) (S : ev_St) : Option ((Unit) × ev_St) := ev_bd (jm_36 Q a0 a1 ((Int64.ofNat ((0 : Fin 2) : Nat))) ((Int64.ofNat ((0 : Fin 2) : Nat))) S) fun _ s1 => some ((), s1)
theorem jt_35 (d : Nat) (hd : 2 ≤ d) (Q : Nat) (a0 : Nat) (a1 : Int) (ha0 : a0 = 0 ∨ ev_isAb (a0 - 1) 2 .long = true) (ha1 : ev_rng a1) (S : ev_St) (x : Unit) (S' : ev_St) (hJ : jm_35 Q a0 a1 S = some (x, S')) : ev_Ref d 35 [.ref 221, ev_nv a0, .int (Int32.ofInt a1)] S (ev_eU x) S' (ev_PU x) := by
  obtain ⟨d, rfl⟩ : ∃ e, d = e + 1 := ⟨d - 1, by omega⟩
  refine ev_ref_of (P := ev_PU) (lv := [(0, .ref 221), (1, ev_nv a0), (2, .int (Int32.ofInt a1))]) (by decide +kernel) (by (try simp only [ev_sum, ev_nv_cat]); first | done | rfl) (by (try simp only [lv_args, ev_nv_cat]); first | done | rfl) ?_ x S' hJ
  unfold jm_35
  refine ev_r_aload_n (pc := 0) (k := 0) (v := .ref 221) trivial (by decide +kernel) (by rfl) ?_
  refine ev_r_aload_n (pc := 1) (k := 1) (v := ev_nv a0) (ev_isR_nv _) (by decide +kernel) (by rfl) ?_
  refine ev_r_iload_n (pc := 2) (k := 2) (v := Int32.ofInt a1) (by decide +kernel) (by rfl) ?_
  refine ev_r_lconst (pc := 3) (c := 0) (by decide +kernel) ?_
  refine ev_r_lconst (pc := 4) (c := 0) (by decide +kernel) ?_
  refine ev_r_virt (pc := 5) (y := 128) (mi := 36) (na := 4) (k := 221) (as := [ev_nv a0, .int (Int32.ofInt a1), .long ((Int64.ofNat ((0 : Fin 2) : Nat))), .long ((Int64.ofNat ((0 : Fin 2) : Nat)))]) (rest := []) (encc := ev_oU) (Q := ev_PU) (fun x S1 h => jt_36 d (by omega) Q a0 a1 ((Int64.ofNat ((0 : Fin 2) : Nat))) ((Int64.ofNat ((0 : Fin 2) : Nat))) (by exact ha0) ha1 S x S1 h) (by exact ev_ob_221) (by decide +kernel) (by decide +kernel) (by decide +kernel) (by decide +kernel) rfl (by (try simp only [ev_sum, ev_nv_cat]); first | done | rfl) ?_
  intro _ s1 _
  show ev_w _ _ _ _ _ [] _ _ _ _
  exact ev_r_return (pc := 8) (x := ()) trivial (by decide +kernel) (by decide +kernel) rfl
/-- MendBench$Pattern.isEnd(I)Z -/
def jm_61 (Q : Nat) (a0 : Int) (S : ev_St) : Option ((Int) × ev_St) := if a0 < 1 then (some (0, S)) else (if 6 < a0 then (some (0, S)) else (some (1, S)))
theorem jt_61 (d : Nat) (hd : 1 ≤ d) (Q : Nat) (a0 : Int) (ha0 : ev_rng a0) (S : ev_St) (x : Int) (S' : ev_St) (hJ : jm_61 Q a0 S = some (x, S')) : ev_Ref d 61 [.int (Int32.ofInt a0)] S (ev_eI x) S' (ev_bl x) := by
  obtain ⟨d, rfl⟩ : ∃ e, d = e + 1 := ⟨d - 1, by omega⟩
  refine ev_ref_of (P := ev_bl) (lv := [(0, .int (Int32.ofInt a0))]) (by decide +kernel) (by (try simp only [ev_sum, ev_nv_cat]); first | done | rfl) (by (try simp only [lv_args, ev_nv_cat]); first | done | rfl) ?_ x S' hJ
  unfold jm_61
  refine ev_r_iload_n (pc := 0) (k := 0) (v := Int32.ofInt a0) (by decide +kernel) (by rfl) ?_
  refine ev_r_iconst (pc := 1) (k := 1) (by decide +kernel) ?_
  refine ev_r_icmp (pc := 2) (q := .lt) (o := 13) (t := 15) (c := a0 < 1) (by decide +kernel) (ev_k_lt ha0 (by decide)) (by decide +kernel) ?_ ?_
  · intro c1
    refine ev_r_iconst (pc := 15) (k := 0) (by decide +kernel) ?_
    exact ev_r_ireturn (pc := 16) (x := 0) (v := Int32.ofInt 0) (ty := .boolean) (by decide : ev_bl 0) (by decide +kernel) (by decide +kernel) (ev_ret_bl (by decide : ev_bl 0)) rfl
  · intro c1
    refine ev_r_iload_n (pc := 5) (k := 0) (v := Int32.ofInt a0) (by decide +kernel) (by rfl) ?_
    refine ev_r_bipush (pc := 6) (k := 6) (by decide +kernel) (by decide +kernel) ?_
    refine ev_r_icmp (pc := 8) (q := .gt) (o := 7) (t := 15) (c := 6 < a0) (by decide +kernel) (ev_k_gt ha0 (by decide)) (by decide +kernel) ?_ ?_
    · intro c2
      refine ev_r_iconst (pc := 15) (k := 0) (by decide +kernel) ?_
      exact ev_r_ireturn (pc := 16) (x := 0) (v := Int32.ofInt 0) (ty := .boolean) (by decide : ev_bl 0) (by decide +kernel) (by decide +kernel) (ev_ret_bl (by decide : ev_bl 0)) rfl
    · intro c2
      refine ev_r_iconst (pc := 11) (k := 1) (by decide +kernel) ?_
      refine ev_r_goto (pc := 12) (o := 4) (t := 16) (by decide +kernel) (by decide +kernel) ?_
      exact ev_r_ireturn (pc := 16) (x := 1) (v := Int32.ofInt 1) (ty := .boolean) (by decide : ev_bl 1) (by decide +kernel) (by decide +kernel) (ev_ret_bl (by decide : ev_bl 1)) rfl
/-- MendBench$Pattern.isRepeat(I)Z -/
def jm_62 (Q : Nat) (a0 : Int) (S : ev_St) : Option ((Int) × ev_St) := if a0 = 13 then (some (1, S)) else (if a0 ≠ 14 then (some (0, S)) else (some (1, S)))
theorem jt_62 (d : Nat) (hd : 1 ≤ d) (Q : Nat) (a0 : Int) (ha0 : ev_rng a0) (S : ev_St) (x : Int) (S' : ev_St) (hJ : jm_62 Q a0 S = some (x, S')) : ev_Ref d 62 [.int (Int32.ofInt a0)] S (ev_eI x) S' (ev_bl x) := by
  obtain ⟨d, rfl⟩ : ∃ e, d = e + 1 := ⟨d - 1, by omega⟩
  refine ev_ref_of (P := ev_bl) (lv := [(0, .int (Int32.ofInt a0))]) (by decide +kernel) (by (try simp only [ev_sum, ev_nv_cat]); first | done | rfl) (by (try simp only [lv_args, ev_nv_cat]); first | done | rfl) ?_ x S' hJ
  unfold jm_62
  refine ev_r_iload_n (pc := 0) (k := 0) (v := Int32.ofInt a0) (by decide +kernel) (by rfl) ?_
  refine ev_r_bipush (pc := 1) (k := 13) (by decide +kernel) (by decide +kernel) ?_
  refine ev_r_icmp (pc := 3) (q := .eq) (o := 9) (t := 12) (c := a0 = 13) (by decide +kernel) (ev_k_eq ha0 (by decide)) (by decide +kernel) ?_ ?_
  · intro c1
    refine ev_r_iconst (pc := 12) (k := 1) (by decide +kernel) ?_
    refine ev_r_goto (pc := 13) (o := 4) (t := 17) (by decide +kernel) (by decide +kernel) ?_
    exact ev_r_ireturn (pc := 17) (x := 1) (v := Int32.ofInt 1) (ty := .boolean) (by decide : ev_bl 1) (by decide +kernel) (by decide +kernel) (ev_ret_bl (by decide : ev_bl 1)) rfl
  · intro c1
    refine ev_r_iload_n (pc := 6) (k := 0) (v := Int32.ofInt a0) (by decide +kernel) (by rfl) ?_
    refine ev_r_bipush (pc := 7) (k := 14) (by decide +kernel) (by decide +kernel) ?_
    refine ev_r_icmp (pc := 9) (q := .ne) (o := 7) (t := 16) (c := a0 ≠ 14) (by decide +kernel) (ev_k_ne ha0 (by decide)) (by decide +kernel) ?_ ?_
    · intro c2
      refine ev_r_iconst (pc := 16) (k := 0) (by decide +kernel) ?_
      exact ev_r_ireturn (pc := 17) (x := 0) (v := Int32.ofInt 0) (ty := .boolean) (by decide : ev_bl 0) (by decide +kernel) (by decide +kernel) (ev_ret_bl (by decide : ev_bl 0)) rfl
    · intro c2
      refine ev_r_iconst (pc := 12) (k := 1) (by decide +kernel) ?_
      refine ev_r_goto (pc := 13) (o := 4) (t := 17) (by decide +kernel) (by decide +kernel) ?_
      exact ev_r_ireturn (pc := 17) (x := 1) (v := Int32.ofInt 1) (ty := .boolean) (by decide : ev_bl 1) (by decide +kernel) (by decide +kernel) (ev_ret_bl (by decide : ev_bl 1)) rfl
/-- MendBench$Pattern.isNode(I)Z -/
def jm_59 (Q : Nat) (k : Nat) (a0 : Int) (S : ev_St) : Option ((Int) × ev_St) := if a0 < 0 then (some (0, S)) else (ev_b (S.1 k 11) fun x2 => if x2 ≤ a0 then (some (0, S)) else (if 400 ≤ a0 then (some (0, S)) else (some (1, S))))
theorem jt_59 (d : Nat) (hd : 1 ≤ d) (Q : Nat) (k : Nat) (a0 : Int) (hk : ev_isOb k 5 = true) (ha0 : ev_rng a0) (S : ev_St) (x : Int) (S' : ev_St) (hJ : jm_59 Q k a0 S = some (x, S')) : ev_Ref d 59 [.ref k, .int (Int32.ofInt a0)] S (ev_eI x) S' (ev_bl x) := by
  obtain ⟨d, rfl⟩ : ∃ e, d = e + 1 := ⟨d - 1, by omega⟩
  refine ev_ref_of (P := ev_bl) (lv := [(0, .ref k), (1, .int (Int32.ofInt a0))]) (by decide +kernel) (by (try simp only [ev_sum, ev_nv_cat]); first | done | rfl) (by (try simp only [lv_args, ev_nv_cat]); first | done | rfl) ?_ x S' hJ
  unfold jm_59
  refine ev_r_iload_n (pc := 0) (k := 1) (v := Int32.ofInt a0) (by decide +kernel) (by rfl) ?_
  refine ev_r_if (pc := 1) (q := .lt) (o := 22) (t := 23) (c := a0 < 0) (by decide +kernel) (ev_k_lt ha0 ev_rng0) (by decide +kernel) ?_ ?_
  · intro c1
    refine ev_r_iconst (pc := 23) (k := 0) (by decide +kernel) ?_
    exact ev_r_ireturn (pc := 24) (x := 0) (v := Int32.ofInt 0) (ty := .boolean) (by decide : ev_bl 0) (by decide +kernel) (by decide +kernel) (ev_ret_bl (by decide : ev_bl 0)) rfl
  · intro c1
    refine ev_r_iload_n (pc := 4) (k := 1) (v := Int32.ofInt a0) (by decide +kernel) (by rfl) ?_
    refine ev_r_aload_n (pc := 5) (k := 0) (v := .ref k) trivial (by decide +kernel) (by rfl) ?_
    refine ev_r_getI (pc := 6) (y := 60) (ci := 5) (f := 11) (fin := 0) (by decide +kernel) (by decide +kernel) (by exact hk) rfl ?_
    intro x2 hx2
    refine ev_r_icmp (pc := 9) (q := .ge) (o := 14) (t := 23) (c := x2 ≤ a0) (by decide +kernel) (ev_k_ge ha0 hx2) (by decide +kernel) ?_ ?_
    · intro c3
      refine ev_r_iconst (pc := 23) (k := 0) (by decide +kernel) ?_
      exact ev_r_ireturn (pc := 24) (x := 0) (v := Int32.ofInt 0) (ty := .boolean) (by decide : ev_bl 0) (by decide +kernel) (by decide +kernel) (ev_ret_bl (by decide : ev_bl 0)) rfl
    · intro c3
      refine ev_r_iload_n (pc := 12) (k := 1) (v := Int32.ofInt a0) (by decide +kernel) (by rfl) ?_
      refine ev_r_sipush (pc := 13) (k := 400) (by decide +kernel) (by decide +kernel) ?_
      refine ev_r_icmp (pc := 16) (q := .ge) (o := 7) (t := 23) (c := 400 ≤ a0) (by decide +kernel) (ev_k_ge ha0 (by decide)) (by decide +kernel) ?_ ?_
      · intro c4
        refine ev_r_iconst (pc := 23) (k := 0) (by decide +kernel) ?_
        exact ev_r_ireturn (pc := 24) (x := 0) (v := Int32.ofInt 0) (ty := .boolean) (by decide : ev_bl 0) (by decide +kernel) (by decide +kernel) (ev_ret_bl (by decide : ev_bl 0)) rfl
      · intro c4
        refine ev_r_iconst (pc := 19) (k := 1) (by decide +kernel) ?_
        refine ev_r_goto (pc := 20) (o := 4) (t := 24) (by decide +kernel) (by decide +kernel) ?_
        exact ev_r_ireturn (pc := 24) (x := 1) (v := Int32.ofInt 1) (ty := .boolean) (by decide : ev_bl 1) (by decide +kernel) (by decide +kernel) (ev_ret_bl (by decide : ev_bl 1)) rfl
/-- MendBench$Facts.unite([JI[JI)V -/
def jm_37 (Q : Nat) (a0 : Nat) (a1 : Int) (a2 : Nat) (a3 : Int) (S : ev_St) : Option ((Unit) × ev_St) := if a1 < 0 then (some ((), S)) else (ev_ck (2 * a1) fun x2 => ev_ck (x2 + 1) fun x3 => ev_if (a0 ≠ 0) (ev_b (ev_aln ((a0 - 1)) : Int) fun x5 => if x5 ≤ x3 then (some ((), S)) else (if a3 < 0 then (some ((), S)) else (ev_ck (2 * a3) fun x8 => ev_ck (x8 + 1) fun x9 => ev_if (a2 ≠ 0) (ev_b (ev_aln ((a2 - 1)) : Int) fun x11 => if x11 ≤ x9 then (some ((), S)) else (ev_ck (2 * a1) fun x13 => ev_if (a0 ≠ 0) (ev_if ((0 : Int) ≤ x13 ∧ x13 < (ev_aln ((a0 - 1)) : Int)) (ev_b (S.2.1 ((a0 - 1)) (Int.toNat x13)) fun y15 => ev_ck (2 * a3) fun x16 => ev_if (a2 ≠ 0) (ev_if ((0 : Int) ≤ x16 ∧ x16 < (ev_aln ((a2 - 1)) : Int)) (ev_b (S.2.1 ((a2 - 1)) (Int.toNat x16)) fun y18 => ev_b (y15 ||| y18) fun y19 => ev_if (a0 ≠ 0) (ev_if ((0 : Int) ≤ x13 ∧ x13 < (ev_aln ((a0 - 1)) : Int)) (ev_b (ev_pL S ((a0 - 1)) (Int.toNat x13) y19) fun s21 => ev_ck (2 * a1) fun x22 => ev_ck (x22 + 1) fun x23 => ev_if (a0 ≠ 0) (ev_if ((0 : Int) ≤ x23 ∧ x23 < (ev_aln ((a0 - 1)) : Int)) (ev_b (s21.2.1 ((a0 - 1)) (Int.toNat x23)) fun y25 => ev_ck (2 * a3) fun x26 => ev_ck (x26 + 1) fun x27 => ev_if (a2 ≠ 0) (ev_if ((0 : Int) ≤ x27 ∧ x27 < (ev_aln ((a2 - 1)) : Int)) (ev_b (s21.2.1 ((a2 - 1)) (Int.toNat x27)) fun y29 => ev_b (y25 ||| y29) fun y30 => ev_if (a0 ≠ 0) (ev_if ((0 : Int) ≤ x23 ∧ x23 < (ev_aln ((a0 - 1)) : Int)) (ev_b (ev_pL s21 ((a0 - 1)) (Int.toNat x23) y30) fun s32 => some ((), s32)))))))))))))))))))
theorem jt_37 (d : Nat) (hd : 1 ≤ d) (Q : Nat) (a0 : Nat) (a1 : Int) (a2 : Nat) (a3 : Int) (ha0 : a0 = 0 ∨ ev_isAb (a0 - 1) 2 .long = true) (ha1 : ev_rng a1) (ha2 : a2 = 0 ∨ ev_isAb (a2 - 1) 2 .long = true) (ha3 : ev_rng a3) (S : ev_St) (x : Unit) (S' : ev_St) (hJ : jm_37 Q a0 a1 a2 a3 S = some (x, S')) : ev_Ref d 37 [.ref 221, ev_nv a0, .int (Int32.ofInt a1), ev_nv a2, .int (Int32.ofInt a3)] S (ev_eU x) S' (ev_PU x) := by
  obtain ⟨d, rfl⟩ : ∃ e, d = e + 1 := ⟨d - 1, by omega⟩
  refine ev_ref_of (P := ev_PU) (lv := [(0, .ref 221), (1, ev_nv a0), (2, .int (Int32.ofInt a1)), (3, ev_nv a2), (4, .int (Int32.ofInt a3))]) (by decide +kernel) (by (try simp only [ev_sum, ev_nv_cat]); first | done | rfl) (by (try simp only [lv_args, ev_nv_cat]); first | done | rfl) ?_ x S' hJ
  unfold jm_37
  refine ev_r_iload_n (pc := 0) (k := 2) (v := Int32.ofInt a1) (by decide +kernel) (by rfl) ?_
  refine ev_r_if (pc := 1) (q := .lt) (o := 61) (t := 62) (c := a1 < 0) (by decide +kernel) (ev_k_lt ha1 ev_rng0) (by decide +kernel) ?_ ?_
  · intro c1
    exact ev_r_return (pc := 62) (x := ()) trivial (by decide +kernel) (by decide +kernel) rfl
  · intro c1
    refine ev_r_iconst (pc := 4) (k := 2) (by decide +kernel) ?_
    refine ev_r_iload_n (pc := 5) (k := 2) (v := Int32.ofInt a1) (by decide +kernel) (by rfl) ?_
    refine ev_r_imul (pc := 6) (by decide +kernel) ?_
    intro x2 hx2
    refine ev_r_iconst (pc := 7) (k := 1) (by decide +kernel) ?_
    refine ev_r_iadd (pc := 8) (by decide +kernel) ?_
    intro x3 hx3
    refine ev_r_aload_n (pc := 9) (k := 1) (v := ev_nv a0) (ev_isR_nv _) (by decide +kernel) (by rfl) ?_
    refine ev_r_chk ?_
    intro c4
    refine ev_r_dr (r := a0) (fun v => [v, .int (Int32.ofInt x3)]) c4 ?_
    refine ev_r_alen (pc := 10) (kd := 2) (ty := .long) (Or.inr rfl) (by decide +kernel) (by exact (ha0.resolve_left c4)) ?_
    intro x5 hx5
    refine ev_r_icmp (pc := 11) (q := .ge) (o := 51) (t := 62) (c := x5 ≤ x3) (by decide +kernel) (ev_k_ge hx3 hx5) (by decide +kernel) ?_ ?_
    · intro c6
      exact ev_r_return (pc := 62) (x := ()) trivial (by decide +kernel) (by decide +kernel) rfl
    · intro c6
      refine ev_r_iload (pc := 14) (k := 4) (v := Int32.ofInt a3) (by decide +kernel) (by rfl) ?_
      refine ev_r_if (pc := 16) (q := .lt) (o := 46) (t := 62) (c := a3 < 0) (by decide +kernel) (ev_k_lt ha3 ev_rng0) (by decide +kernel) ?_ ?_
      · intro c7
        exact ev_r_return (pc := 62) (x := ()) trivial (by decide +kernel) (by decide +kernel) rfl
      · intro c7
        refine ev_r_iconst (pc := 19) (k := 2) (by decide +kernel) ?_
        refine ev_r_iload (pc := 20) (k := 4) (v := Int32.ofInt a3) (by decide +kernel) (by rfl) ?_
        refine ev_r_imul (pc := 22) (by decide +kernel) ?_
        intro x8 hx8
        refine ev_r_iconst (pc := 23) (k := 1) (by decide +kernel) ?_
        refine ev_r_iadd (pc := 24) (by decide +kernel) ?_
        intro x9 hx9
        refine ev_r_aload_n (pc := 25) (k := 3) (v := ev_nv a2) (ev_isR_nv _) (by decide +kernel) (by rfl) ?_
        refine ev_r_chk ?_
        intro c10
        refine ev_r_dr (r := a2) (fun v => [v, .int (Int32.ofInt x9)]) c10 ?_
        refine ev_r_alen (pc := 26) (kd := 2) (ty := .long) (Or.inr rfl) (by decide +kernel) (by exact (ha2.resolve_left c10)) ?_
        intro x11 hx11
        refine ev_r_icmp (pc := 27) (q := .ge) (o := 35) (t := 62) (c := x11 ≤ x9) (by decide +kernel) (ev_k_ge hx9 hx11) (by decide +kernel) ?_ ?_
        · intro c12
          exact ev_r_return (pc := 62) (x := ()) trivial (by decide +kernel) (by decide +kernel) rfl
        · intro c12
          refine ev_r_aload_n (pc := 30) (k := 1) (v := ev_nv a0) (ev_isR_nv _) (by decide +kernel) (by rfl) ?_
          refine ev_r_iconst (pc := 31) (k := 2) (by decide +kernel) ?_
          refine ev_r_iload_n (pc := 32) (k := 2) (v := Int32.ofInt a1) (by decide +kernel) (by rfl) ?_
          refine ev_r_imul (pc := 33) (by decide +kernel) ?_
          intro x13 hx13
          refine ev_r_dup2 (pc := 34) rfl (ev_nv_cat _) (by decide +kernel) ?_
          refine ev_r_chk ?_
          intro c14
          refine ev_r_dr (r := a0) (fun v => [.int (Int32.ofInt x13), v, .int (Int32.ofInt x13), ev_nv a0]) c14 ?_
          refine ev_r_lald (pc := 35) hx13 (by decide +kernel) (by exact (ha0.resolve_left c14)) ?_
          intro y15
          refine ev_r_aload_n (pc := 36) (k := 3) (v := ev_nv a2) (ev_isR_nv _) (by decide +kernel) (by rfl) ?_
          refine ev_r_iconst (pc := 37) (k := 2) (by decide +kernel) ?_
          refine ev_r_iload (pc := 38) (k := 4) (v := Int32.ofInt a3) (by decide +kernel) (by rfl) ?_
          refine ev_r_imul (pc := 40) (by decide +kernel) ?_
          intro x16 hx16
          refine ev_r_chk ?_
          intro c17
          refine ev_r_dr (r := a2) (fun v => [.int (Int32.ofInt x16), v, .long y15, .int (Int32.ofInt x13), ev_nv a0]) c17 ?_
          refine ev_r_lald (pc := 41) hx16 (by decide +kernel) (by exact (ha2.resolve_left c17)) ?_
          intro y18
          refine ev_r_toL (pc := 42) (i := .lor) (len := 1) (pc' := 43) (by decide +kernel) rfl ?_
          intro y19
          refine ev_r_chk ?_
          intro c20
          refine ev_r_dr (r := a0) (fun v => [.long y19, .int (Int32.ofInt x13), v]) c20 ?_
          refine ev_r_last (pc := 43) hx13 (by decide +kernel) (by exact (ha0.resolve_left c20)) ?_
          intro s21
          refine ev_r_aload_n (pc := 44) (k := 1) (v := ev_nv a0) (ev_isR_nv _) (by decide +kernel) (by rfl) ?_
          refine ev_r_iconst (pc := 45) (k := 2) (by decide +kernel) ?_
          refine ev_r_iload_n (pc := 46) (k := 2) (v := Int32.ofInt a1) (by decide +kernel) (by rfl) ?_
          refine ev_r_imul (pc := 47) (by decide +kernel) ?_
          intro x22 hx22
          refine ev_r_iconst (pc := 48) (k := 1) (by decide +kernel) ?_
          refine ev_r_iadd (pc := 49) (by decide +kernel) ?_
          intro x23 hx23
          refine ev_r_dup2 (pc := 50) rfl (ev_nv_cat _) (by decide +kernel) ?_
          refine ev_r_chk ?_
          intro c24
          refine ev_r_dr (r := a0) (fun v => [.int (Int32.ofInt x23), v, .int (Int32.ofInt x23), ev_nv a0]) c24 ?_
          refine ev_r_lald (pc := 51) hx23 (by decide +kernel) (by exact (ha0.resolve_left c24)) ?_
          intro y25
          refine ev_r_aload_n (pc := 52) (k := 3) (v := ev_nv a2) (ev_isR_nv _) (by decide +kernel) (by rfl) ?_
          refine ev_r_iconst (pc := 53) (k := 2) (by decide +kernel) ?_
          refine ev_r_iload (pc := 54) (k := 4) (v := Int32.ofInt a3) (by decide +kernel) (by rfl) ?_
          refine ev_r_imul (pc := 56) (by decide +kernel) ?_
          intro x26 hx26
          refine ev_r_iconst (pc := 57) (k := 1) (by decide +kernel) ?_
          refine ev_r_iadd (pc := 58) (by decide +kernel) ?_
          intro x27 hx27
          refine ev_r_chk ?_
          intro c28
          refine ev_r_dr (r := a2) (fun v => [.int (Int32.ofInt x27), v, .long y25, .int (Int32.ofInt x23), ev_nv a0]) c28 ?_
          refine ev_r_lald (pc := 59) hx27 (by decide +kernel) (by exact (ha2.resolve_left c28)) ?_
          intro y29
          refine ev_r_toL (pc := 60) (i := .lor) (len := 1) (pc' := 61) (by decide +kernel) rfl ?_
          intro y30
          refine ev_r_chk ?_
          intro c31
          refine ev_r_dr (r := a0) (fun v => [.long y30, .int (Int32.ofInt x23), v]) c31 ?_
          refine ev_r_last (pc := 61) hx23 (by decide +kernel) (by exact (ha0.resolve_left c31)) ?_
          intro s32
          exact ev_r_return (pc := 62) (x := ()) trivial (by decide +kernel) (by decide +kernel) rfl
/-- MendBench$Facts.learnRepeat(I)V -/
def jm_32 (Q : Nat) (a0 : Int) (S : ev_St) : Option ((Unit) × ev_St) := ev_b (S.2.2.1 221 9) fun r1 => ev_if (r1 ≠ 0) (ev_if ((0 : Int) ≤ a0 ∧ a0 < (ev_aln (((r1 - 1) + 4)) : Int)) (ev_b (S.1 (((r1 - 1) + 4)) (Int.toNat a0)) fun x3 => ev_b (S.2.2.1 221 9) fun r4 => ev_if (r4 ≠ 0) (ev_bd (jm_59 Q ((r4 - 1)) x3 S) fun x7 s6 => if x7 ≠ 0 then (ev_b (s6.2.2.1 221 9) fun r9 => ev_if (r9 ≠ 0) (ev_if ((0 : Int) ≤ a0 ∧ a0 < (ev_aln (((r9 - 1) + 2)) : Int)) (ev_b (s6.1 (((r9 - 1) + 2)) (Int.toNat a0)) fun x11 => ev_b (s6.2.2.1 221 9) fun r12 => ev_if (r12 ≠ 0) (ev_if ((0 : Int) ≤ a0 ∧ a0 < (ev_aln (((r12 - 1) + 3)) : Int)) (ev_b (s6.1 (((r12 - 1) + 3)) (Int.toNat a0)) fun x14 => ev_jn (fun (x15 : Int) (x16 : Int) (x17 : Int) (s24 : ev_St) => ev_if ((0 : Int) ≤ x3 ∧ x3 < (ev_aln 222 : Int)) (ev_b (s24.1 222 (Int.toNat x3)) fun x25 => ev_ck (x25 * x15) fun x26 => ev_b (ev_imin 1000000 x26) fun x27 => ev_if ((0 : Int) ≤ a0 ∧ a0 < (ev_aln 222 : Int)) (ev_b (ev_pI s24 222 (Int.toNat a0) x27) fun s28 => ev_jn (fun (x29 : Int) (x30 : Int) (s38 : ev_St) => ev_b (ev_imin 1000000 x30) fun x39 => ev_if ((0 : Int) ≤ a0 ∧ a0 < (ev_aln 223 : Int)) (ev_b (ev_pI s38 223 (Int.toNat a0) x39) fun s40 => ev_jn (fun  (s48 : ev_St) => ev_jn (fun  (s54 : ev_St) => ev_bd (jm_37 Q ((227 + 1)) a0 ((227 + 1)) x3 s54) fun _ s55 => if x29 = 0 then (some ((), s55)) else (ev_bd (jm_37 Q ((227 + 1)) a0 ((226 + 1)) x3 s55) fun _ s57 => some ((), s57))) fun K206 => if x16 = 0 then (K206  s48) else (ev_jn (fun  (s64 : ev_St) => ev_bd (jm_37 Q ((225 + 1)) a0 ((225 + 1)) x3 s64) fun _ s65 => ev_bd (jm_37 Q ((226 + 1)) a0 ((226 + 1)) x3 s65) fun _ s66 => if x29 = 0 then (K206  s66) else (ev_bd (jm_37 Q ((226 + 1)) a0 ((225 + 1)) x3 s66) fun _ s68 => K206  s68)) fun K159 => if x15 ≤ 1 then (K159  s48) else (ev_if ((0 : Int) ≤ x3 ∧ x3 < (ev_aln 222 : Int)) (ev_b (s48.1 222 (Int.toNat x3)) fun x70 => if x70 ≠ 0 then (K206  s48) else (K159  s48))))) fun K140 => if x16 = 0 then (K140  s40) else (ev_bd (jm_37 Q ((224 + 1)) a0 ((224 + 1)) x3 s40) fun _ s73 => K140  s73))) fun K106 => if x17 = 0 then (ev_if ((0 : Int) ≤ x3 ∧ x3 < (ev_aln 223 : Int)) (ev_b (s28.1 223 (Int.toNat x3)) fun x75 => ev_ck (x75 + 1) fun x76 => ev_ck (x76 * x16) fun x77 => K106 x17 x77 s28)) else (ev_if ((0 : Int) ≤ x3 ∧ x3 < (ev_aln 223 : Int)) (ev_b (s28.1 223 (Int.toNat x3)) fun x78 => ev_ck (x15 + 1) fun x79 => ev_ck (x78 * x79) fun x80 => ev_ck (x80 + 2) fun x81 => K106 x17 x81 s28))))) fun K54 => if x14 ≠ (-1) then (K54 x11 x14 0 s6) else (K54 x11 x14 1 s6)))))) else (some ((), s6)))))
theorem jt_32 (d : Nat) (hd : 2 ≤ d) (Q : Nat) (a0 : Int) (ha0 : ev_rng a0) (S : ev_St) (x : Unit) (S' : ev_St) (hJ : jm_32 Q a0 S = some (x, S')) : ev_Ref d 32 [.ref 221, .int (Int32.ofInt a0)] S (ev_eU x) S' (ev_PU x) := by
  obtain ⟨d, rfl⟩ : ∃ e, d = e + 1 := ⟨d - 1, by omega⟩
  refine ev_ref_of (P := ev_PU) (lv := [(0, .ref 221), (1, .int (Int32.ofInt a0))]) (by decide +kernel) (by (try simp only [ev_sum, ev_nv_cat]); first | done | rfl) (by (try simp only [lv_args, ev_nv_cat]); first | done | rfl) ?_ x S' hJ
  unfold jm_32
  refine ev_r_aload_n (pc := 0) (k := 0) (v := .ref 221) trivial (by decide +kernel) (by rfl) ?_
  refine ev_r_getR (pc := 1) (y := 47) (ci := 2) (f := 9) (fin := 0) (t := 5) (by decide +kernel) (by decide +kernel) (by exact ev_ob_221) rfl rfl ?_
  intro r1 hr1
  have hr1 : r1 = 0 ∨ ev_isOb (r1 - 1) 5 = true := hr1
  refine ev_r_chk ?_
  intro c2
  refine ev_r_dr (r := r1) (fun v => [v]) c2 ?_
  refine ev_r_getC (pc := 4) (y := 154) (ci := 5) (f := 3) (fin := 2) (k' := ((r1 - 1) + 4)) (by decide +kernel) (by decide +kernel) (by exact (hr1.resolve_left c2)) rfl rfl ?_
  refine ev_r_iload_n (pc := 7) (k := 1) (v := Int32.ofInt a0) (by decide +kernel) (by rfl) ?_
  refine ev_r_iald (pc := 8) ha0 (by decide +kernel) (by exact (ev_fo_5_3 (hr1.resolve_left c2))) ?_
  intro x3 hx3
  refine ev_r_istore_n (pc := 9) (k := 2) (by decide +kernel) (by decide +kernel) rfl ?_
  refine ev_r_aload_n (pc := 10) (k := 0) (v := .ref 221) trivial (by decide +kernel) (by exact (ev_l1 (by rfl) (by decide) (by decide))) ?_
  refine ev_r_getR (pc := 11) (y := 47) (ci := 2) (f := 9) (fin := 0) (t := 5) (by decide +kernel) (by decide +kernel) (by exact ev_ob_221) rfl rfl ?_
  intro r4 hr4
  have hr4 : r4 = 0 ∨ ev_isOb (r4 - 1) 5 = true := hr4
  refine ev_r_iload_n (pc := 14) (k := 2) (v := Int32.ofInt x3) (by decide +kernel) (by exact ev_lk_st1_self) ?_
  refine ev_r_chk ?_
  intro c5
  refine ev_r_dr (r := r4) (fun v => [.int (Int32.ofInt x3), v]) c5 ?_
  refine ev_r_virt (pc := 15) (y := 63) (mi := 59) (na := 1) (k := (r4 - 1)) (as := [.int (Int32.ofInt x3)]) (rest := []) (encc := ev_oI) (Q := ev_bl) (fun x S1 h => jt_59 d (by omega) Q ((r4 - 1)) x3 (hr4.resolve_left c5) hx3 S x S1 h) (by exact (hr4.resolve_left c5)) (by decide +kernel) (by decide +kernel) (by decide +kernel) (by decide +kernel) rfl (by (try simp only [ev_sum, ev_nv_cat]); first | done | rfl) ?_
  intro x7 s6 hx7
  replace hx7 := ev_bl_rng hx7
  show ev_w _ _ _ _ _ [.int (Int32.ofInt x7)] _ _ _ _
  refine ev_r_if (pc := 18) (q := .ne) (o := 4) (t := 22) (c := x7 ≠ 0) (by decide +kernel) (ev_k_ne hx7 ev_rng0) (by decide +kernel) ?_ ?_
  · intro c8
    refine ev_r_aload_n (pc := 22) (k := 0) (v := .ref 221) trivial (by decide +kernel) (by exact (ev_l1 (by rfl) (by decide) (by decide))) ?_
    refine ev_r_getR (pc := 23) (y := 47) (ci := 2) (f := 9) (fin := 0) (t := 5) (by decide +kernel) (by decide +kernel) (by exact ev_ob_221) rfl rfl ?_
    intro r9 hr9
    have hr9 : r9 = 0 ∨ ev_isOb (r9 - 1) 5 = true := hr9
    refine ev_r_chk ?_
    intro c10
    refine ev_r_dr (r := r9) (fun v => [v]) c10 ?_
    refine ev_r_getC (pc := 26) (y := 157) (ci := 5) (f := 1) (fin := 2) (k' := ((r9 - 1) + 2)) (by decide +kernel) (by decide +kernel) (by exact (hr9.resolve_left c10)) rfl rfl ?_
    refine ev_r_iload_n (pc := 29) (k := 1) (v := Int32.ofInt a0) (by decide +kernel) (by exact (ev_lk_st1 (by rfl) (by decide) rfl)) ?_
    refine ev_r_iald (pc := 30) ha0 (by decide +kernel) (by exact (ev_fo_5_1 (hr9.resolve_left c10))) ?_
    intro x11 hx11
    refine ev_r_istore_n (pc := 31) (k := 3) (by decide +kernel) (by decide +kernel) rfl ?_
    refine ev_r_aload_n (pc := 32) (k := 0) (v := .ref 221) trivial (by decide +kernel) (by exact (ev_l1 (ev_l1 (by rfl) (by decide) (by decide)) (by decide) (by decide))) ?_
    refine ev_r_getR (pc := 33) (y := 47) (ci := 2) (f := 9) (fin := 0) (t := 5) (by decide +kernel) (by decide +kernel) (by exact ev_ob_221) rfl rfl ?_
    intro r12 hr12
    have hr12 : r12 = 0 ∨ ev_isOb (r12 - 1) 5 = true := hr12
    refine ev_r_chk ?_
    intro c13
    refine ev_r_dr (r := r12) (fun v => [v]) c13 ?_
    refine ev_r_getC (pc := 36) (y := 160) (ci := 5) (f := 2) (fin := 2) (k' := ((r12 - 1) + 3)) (by decide +kernel) (by decide +kernel) (by exact (hr12.resolve_left c13)) rfl rfl ?_
    refine ev_r_iload_n (pc := 39) (k := 1) (v := Int32.ofInt a0) (by decide +kernel) (by exact (ev_l1 (ev_lk_st1 (by rfl) (by decide) rfl) (by decide) (by decide))) ?_
    refine ev_r_iald (pc := 40) ha0 (by decide +kernel) (by exact (ev_fo_5_2 (hr12.resolve_left c13))) ?_
    intro x14 hx14
    refine ev_r_istore (pc := 41) (k := 4) (by decide +kernel) (by decide +kernel) rfl ?_
    refine ev_r_iload (pc := 43) (k := 4) (v := Int32.ofInt x14) (by decide +kernel) (by exact ev_lk_st1_self) ?_
    refine ev_r_iconst (pc := 45) (k := -1) (by decide +kernel) ?_
    refine ev_r_jn (Q := fun K => ∀ (x15 : Int) (hx15 : ev_rng x15), ∀ (x16 : Int) (hx16 : ev_rng x16), ∀ (x17 : Int) (hx17 : ev_rng x17), ∀ (s24 : ev_St) (w18 : List (Nat × Value)), ev_lk w18 0 = some (.ref 221) → ev_lk w18 1 = some (.int (Int32.ofInt a0)) → ev_lk w18 2 = some (.int (Int32.ofInt x3)) → ev_lk w18 3 = some (.int (Int32.ofInt x15)) → ev_lk w18 4 = some (.int (Int32.ofInt x16)) → ev_w none (ev_Mof 32) d 54 w18 [.int (Int32.ofInt x17)] s24 (K x15 x16 x17 s24) ev_eU ev_PU) ?_ ?_
    · intro x15 hx15 x16 hx16 x17 hx17 s24 w18 e19 e20 e21 e22 e23
      refine ev_r_istore (pc := 54) (k := 5) (by decide +kernel) (by decide +kernel) rfl ?_
      refine ev_r_aload_n (pc := 56) (k := 0) (v := .ref 221) trivial (by decide +kernel) (by exact (ev_l1 e19 (by decide) (by decide))) ?_
      refine ev_r_getC (pc := 57) (y := 11) (ci := 2) (f := 0) (fin := 1) (k' := 222) (by decide +kernel) (by decide +kernel) (by exact ev_ob_221) rfl rfl ?_
      refine ev_r_iload_n (pc := 60) (k := 1) (v := Int32.ofInt a0) (by decide +kernel) (by exact (ev_l1 e20 (by decide) (by decide))) ?_
      refine ev_r_ldc (pc := 61) (y := 163) (k := 1000000) (by decide +kernel) (by decide +kernel) ?_
      refine ev_r_aload_n (pc := 63) (k := 0) (v := .ref 221) trivial (by decide +kernel) (by exact (ev_l1 e19 (by decide) (by decide))) ?_
      refine ev_r_getC (pc := 64) (y := 11) (ci := 2) (f := 0) (fin := 1) (k' := 222) (by decide +kernel) (by decide +kernel) (by exact ev_ob_221) rfl rfl ?_
      refine ev_r_iload_n (pc := 67) (k := 2) (v := Int32.ofInt x3) (by decide +kernel) (by exact (ev_l1 e21 (by decide) (by decide))) ?_
      refine ev_r_iald (pc := 68) hx3 (by decide +kernel) (by exact ev_ab_222) ?_
      intro x25 hx25
      refine ev_r_iload_n (pc := 69) (k := 3) (v := Int32.ofInt x15) (by decide +kernel) (by exact (ev_l1 e22 (by decide) (by decide))) ?_
      refine ev_r_imul (pc := 70) (by decide +kernel) ?_
      intro x26 hx26
      refine ev_r_mm1 (pc := 71) (y := 164) (kd := 9) (Or.inl rfl) (by decide +kernel) (by decide +kernel) (by (try simp only [ev_sum, ev_nv_cat]); first | done | rfl) ?_
      intro x27 hx27
      refine ev_r_iast (pc := 74) hx27 ha0 (by decide +kernel) (by exact ev_ab_222) ?_
      intro s28
      refine ev_r_iload (pc := 75) (k := 5) (v := Int32.ofInt x17) (by decide +kernel) (by exact ev_lk_st1_self) ?_
      refine ev_r_jn (Q := fun K => ∀ (x29 : Int) (hx29 : ev_rng x29), ∀ (x30 : Int) (hx30 : ev_rng x30), ∀ (s38 : ev_St) (w31 : List (Nat × Value)), ev_lk w31 0 = some (.ref 221) → ev_lk w31 1 = some (.int (Int32.ofInt a0)) → ev_lk w31 2 = some (.int (Int32.ofInt x3)) → ev_lk w31 3 = some (.int (Int32.ofInt x15)) → ev_lk w31 4 = some (.int (Int32.ofInt x16)) → ev_lk w31 5 = some (.int (Int32.ofInt x29)) → ev_w none (ev_Mof 32) d 106 w31 [.int (Int32.ofInt x30)] s38 (K x29 x30 s38) ev_eU ev_PU) ?_ ?_
      · intro x29 hx29 x30 hx30 s38 w31 e32 e33 e34 e35 e36 e37
        refine ev_r_istore (pc := 106) (k := 6) (by decide +kernel) (by decide +kernel) rfl ?_
        refine ev_r_aload_n (pc := 108) (k := 0) (v := .ref 221) trivial (by decide +kernel) (by exact (ev_l1 e32 (by decide) (by decide))) ?_
        refine ev_r_getC (pc := 109) (y := 17) (ci := 2) (f := 1) (fin := 1) (k' := 223) (by decide +kernel) (by decide +kernel) (by exact ev_ob_221) rfl rfl ?_
        refine ev_r_iload_n (pc := 112) (k := 1) (v := Int32.ofInt a0) (by decide +kernel) (by exact (ev_l1 e33 (by decide) (by decide))) ?_
        refine ev_r_ldc (pc := 113) (y := 163) (k := 1000000) (by decide +kernel) (by decide +kernel) ?_
        refine ev_r_iload (pc := 115) (k := 6) (v := Int32.ofInt x30) (by decide +kernel) (by exact ev_lk_st1_self) ?_
        refine ev_r_mm1 (pc := 117) (y := 164) (kd := 9) (Or.inl rfl) (by decide +kernel) (by decide +kernel) (by (try simp only [ev_sum, ev_nv_cat]); first | done | rfl) ?_
        intro x39 hx39
        refine ev_r_iast (pc := 120) hx39 ha0 (by decide +kernel) (by exact ev_ab_223) ?_
        intro s40
        refine ev_r_iload (pc := 121) (k := 4) (v := Int32.ofInt x16) (by decide +kernel) (by exact (ev_l1 e36 (by decide) (by decide))) ?_
        refine ev_r_jn (Q := fun K => ∀ (s48 : ev_St) (w41 : List (Nat × Value)), ev_lk w41 0 = some (.ref 221) → ev_lk w41 1 = some (.int (Int32.ofInt a0)) → ev_lk w41 2 = some (.int (Int32.ofInt x3)) → ev_lk w41 3 = some (.int (Int32.ofInt x15)) → ev_lk w41 4 = some (.int (Int32.ofInt x16)) → ev_lk w41 5 = some (.int (Int32.ofInt x29)) → ev_w none (ev_Mof 32) d 140 w41 [] s48 (K  s48) ev_eU ev_PU) ?_ ?_
        · intro  s48 w41 e42 e43 e44 e45 e46 e47
          refine ev_r_iload (pc := 140) (k := 4) (v := Int32.ofInt x16) (by decide +kernel) (by exact e46) ?_
          refine ev_r_jn (Q := fun K => ∀ (s54 : ev_St) (w49 : List (Nat × Value)), ev_lk w49 0 = some (.ref 221) → ev_lk w49 1 = some (.int (Int32.ofInt a0)) → ev_lk w49 2 = some (.int (Int32.ofInt x3)) → ev_lk w49 5 = some (.int (Int32.ofInt x29)) → ev_w none (ev_Mof 32) d 206 w49 [] s54 (K  s54) ev_eU ev_PU) ?_ ?_
          · intro  s54 w49 e50 e51 e52 e53
            refine ev_r_aload_n (pc := 206) (k := 0) (v := .ref 221) trivial (by decide +kernel) (by exact e50) ?_
            refine ev_r_aload_n (pc := 207) (k := 0) (v := .ref 221) trivial (by decide +kernel) (by exact e50) ?_
            refine ev_r_getC (pc := 208) (y := 30) (ci := 2) (f := 5) (fin := 1) (k' := 227) (by decide +kernel) (by decide +kernel) (by exact ev_ob_221) rfl rfl ?_
            refine ev_r_iload_n (pc := 211) (k := 1) (v := Int32.ofInt a0) (by decide +kernel) (by exact e51) ?_
            refine ev_r_aload_n (pc := 212) (k := 0) (v := .ref 221) trivial (by decide +kernel) (by exact e50) ?_
            refine ev_r_getC (pc := 213) (y := 30) (ci := 2) (f := 5) (fin := 1) (k' := 227) (by decide +kernel) (by decide +kernel) (by exact ev_ob_221) rfl rfl ?_
            refine ev_r_iload_n (pc := 216) (k := 2) (v := Int32.ofInt x3) (by decide +kernel) (by exact e52) ?_
            refine ev_r_virt (pc := 217) (y := 170) (mi := 37) (na := 4) (k := 221) (as := [ev_nv ((227 + 1)), .int (Int32.ofInt a0), ev_nv ((227 + 1)), .int (Int32.ofInt x3)]) (rest := []) (encc := ev_oU) (Q := ev_PU) (fun x S1 h => jt_37 d (by omega) Q ((227 + 1)) a0 ((227 + 1)) x3 (by exact (Or.inr ev_ab_227)) ha0 (by exact (Or.inr ev_ab_227)) hx3 s54 x S1 h) (by exact ev_ob_221) (by decide +kernel) (by decide +kernel) (by decide +kernel) (by decide +kernel) rfl (by (try simp only [ev_sum, ev_nv_cat]); first | done | rfl) ?_
            intro _ s55 _
            show ev_w _ _ _ _ _ [] _ _ _ _
            refine ev_r_iload (pc := 220) (k := 5) (v := Int32.ofInt x29) (by decide +kernel) (by exact e53) ?_
            refine ev_r_if (pc := 222) (q := .eq) (o := 17) (t := 239) (c := x29 = 0) (by decide +kernel) (ev_k_eq hx29 ev_rng0) (by decide +kernel) ?_ ?_
            · intro c56
              exact ev_r_return (pc := 239) (x := ()) trivial (by decide +kernel) (by decide +kernel) rfl
            · intro c56
              refine ev_r_aload_n (pc := 225) (k := 0) (v := .ref 221) trivial (by decide +kernel) (by exact e50) ?_
              refine ev_r_aload_n (pc := 226) (k := 0) (v := .ref 221) trivial (by decide +kernel) (by exact e50) ?_
              refine ev_r_getC (pc := 227) (y := 30) (ci := 2) (f := 5) (fin := 1) (k' := 227) (by decide +kernel) (by decide +kernel) (by exact ev_ob_221) rfl rfl ?_
              refine ev_r_iload_n (pc := 230) (k := 1) (v := Int32.ofInt a0) (by decide +kernel) (by exact e51) ?_
              refine ev_r_aload_n (pc := 231) (k := 0) (v := .ref 221) trivial (by decide +kernel) (by exact e50) ?_
              refine ev_r_getC (pc := 232) (y := 27) (ci := 2) (f := 4) (fin := 1) (k' := 226) (by decide +kernel) (by decide +kernel) (by exact ev_ob_221) rfl rfl ?_
              refine ev_r_iload_n (pc := 235) (k := 2) (v := Int32.ofInt x3) (by decide +kernel) (by exact e52) ?_
              refine ev_r_virt (pc := 236) (y := 170) (mi := 37) (na := 4) (k := 221) (as := [ev_nv ((227 + 1)), .int (Int32.ofInt a0), ev_nv ((226 + 1)), .int (Int32.ofInt x3)]) (rest := []) (encc := ev_oU) (Q := ev_PU) (fun x S1 h => jt_37 d (by omega) Q ((227 + 1)) a0 ((226 + 1)) x3 (by exact (Or.inr ev_ab_227)) ha0 (by exact (Or.inr ev_ab_226)) hx3 s55 x S1 h) (by exact ev_ob_221) (by decide +kernel) (by decide +kernel) (by decide +kernel) (by decide +kernel) rfl (by (try simp only [ev_sum, ev_nv_cat]); first | done | rfl) ?_
              intro _ s57 _
              show ev_w _ _ _ _ _ [] _ _ _ _
              exact ev_r_return (pc := 239) (x := ()) trivial (by decide +kernel) (by decide +kernel) rfl
          · intro K206 hK206
            refine ev_r_if (pc := 142) (q := .eq) (o := 64) (t := 206) (c := x16 = 0) (by decide +kernel) (ev_k_eq hx16 ev_rng0) (by decide +kernel) ?_ ?_
            · intro c58
              exact hK206  s48 _ (by exact e42) (by exact e43) (by exact e44) (by exact e47)
            · intro c58
              refine ev_r_iload_n (pc := 145) (k := 3) (v := Int32.ofInt x15) (by decide +kernel) (by exact e45) ?_
              refine ev_r_iconst (pc := 146) (k := 1) (by decide +kernel) ?_
              refine ev_r_jn (Q := fun K => ∀ (s64 : ev_St) (w59 : List (Nat × Value)), ev_lk w59 0 = some (.ref 221) → ev_lk w59 1 = some (.int (Int32.ofInt a0)) → ev_lk w59 2 = some (.int (Int32.ofInt x3)) → ev_lk w59 5 = some (.int (Int32.ofInt x29)) → ev_w none (ev_Mof 32) d 159 w59 [] s64 (K  s64) ev_eU ev_PU) ?_ ?_
              · intro  s64 w59 e60 e61 e62 e63
                refine ev_r_aload_n (pc := 159) (k := 0) (v := .ref 221) trivial (by decide +kernel) (by exact e60) ?_
                refine ev_r_aload_n (pc := 160) (k := 0) (v := .ref 221) trivial (by decide +kernel) (by exact e60) ?_
                refine ev_r_getC (pc := 161) (y := 24) (ci := 2) (f := 3) (fin := 1) (k' := 225) (by decide +kernel) (by decide +kernel) (by exact ev_ob_221) rfl rfl ?_
                refine ev_r_iload_n (pc := 164) (k := 1) (v := Int32.ofInt a0) (by decide +kernel) (by exact e61) ?_
                refine ev_r_aload_n (pc := 165) (k := 0) (v := .ref 221) trivial (by decide +kernel) (by exact e60) ?_
                refine ev_r_getC (pc := 166) (y := 24) (ci := 2) (f := 3) (fin := 1) (k' := 225) (by decide +kernel) (by decide +kernel) (by exact ev_ob_221) rfl rfl ?_
                refine ev_r_iload_n (pc := 169) (k := 2) (v := Int32.ofInt x3) (by decide +kernel) (by exact e62) ?_
                refine ev_r_virt (pc := 170) (y := 170) (mi := 37) (na := 4) (k := 221) (as := [ev_nv ((225 + 1)), .int (Int32.ofInt a0), ev_nv ((225 + 1)), .int (Int32.ofInt x3)]) (rest := []) (encc := ev_oU) (Q := ev_PU) (fun x S1 h => jt_37 d (by omega) Q ((225 + 1)) a0 ((225 + 1)) x3 (by exact (Or.inr ev_ab_225)) ha0 (by exact (Or.inr ev_ab_225)) hx3 s64 x S1 h) (by exact ev_ob_221) (by decide +kernel) (by decide +kernel) (by decide +kernel) (by decide +kernel) rfl (by (try simp only [ev_sum, ev_nv_cat]); first | done | rfl) ?_
                intro _ s65 _
                show ev_w _ _ _ _ _ [] _ _ _ _
                refine ev_r_aload_n (pc := 173) (k := 0) (v := .ref 221) trivial (by decide +kernel) (by exact e60) ?_
                refine ev_r_aload_n (pc := 174) (k := 0) (v := .ref 221) trivial (by decide +kernel) (by exact e60) ?_
                refine ev_r_getC (pc := 175) (y := 27) (ci := 2) (f := 4) (fin := 1) (k' := 226) (by decide +kernel) (by decide +kernel) (by exact ev_ob_221) rfl rfl ?_
                refine ev_r_iload_n (pc := 178) (k := 1) (v := Int32.ofInt a0) (by decide +kernel) (by exact e61) ?_
                refine ev_r_aload_n (pc := 179) (k := 0) (v := .ref 221) trivial (by decide +kernel) (by exact e60) ?_
                refine ev_r_getC (pc := 180) (y := 27) (ci := 2) (f := 4) (fin := 1) (k' := 226) (by decide +kernel) (by decide +kernel) (by exact ev_ob_221) rfl rfl ?_
                refine ev_r_iload_n (pc := 183) (k := 2) (v := Int32.ofInt x3) (by decide +kernel) (by exact e62) ?_
                refine ev_r_virt (pc := 184) (y := 170) (mi := 37) (na := 4) (k := 221) (as := [ev_nv ((226 + 1)), .int (Int32.ofInt a0), ev_nv ((226 + 1)), .int (Int32.ofInt x3)]) (rest := []) (encc := ev_oU) (Q := ev_PU) (fun x S1 h => jt_37 d (by omega) Q ((226 + 1)) a0 ((226 + 1)) x3 (by exact (Or.inr ev_ab_226)) ha0 (by exact (Or.inr ev_ab_226)) hx3 s65 x S1 h) (by exact ev_ob_221) (by decide +kernel) (by decide +kernel) (by decide +kernel) (by decide +kernel) rfl (by (try simp only [ev_sum, ev_nv_cat]); first | done | rfl) ?_
                intro _ s66 _
                show ev_w _ _ _ _ _ [] _ _ _ _
                refine ev_r_iload (pc := 187) (k := 5) (v := Int32.ofInt x29) (by decide +kernel) (by exact e63) ?_
                refine ev_r_if (pc := 189) (q := .eq) (o := 17) (t := 206) (c := x29 = 0) (by decide +kernel) (ev_k_eq hx29 ev_rng0) (by decide +kernel) ?_ ?_
                · intro c67
                  exact hK206  s66 _ (by exact e60) (by exact e61) (by exact e62) (by exact e63)
                · intro c67
                  refine ev_r_aload_n (pc := 192) (k := 0) (v := .ref 221) trivial (by decide +kernel) (by exact e60) ?_
                  refine ev_r_aload_n (pc := 193) (k := 0) (v := .ref 221) trivial (by decide +kernel) (by exact e60) ?_
                  refine ev_r_getC (pc := 194) (y := 27) (ci := 2) (f := 4) (fin := 1) (k' := 226) (by decide +kernel) (by decide +kernel) (by exact ev_ob_221) rfl rfl ?_
                  refine ev_r_iload_n (pc := 197) (k := 1) (v := Int32.ofInt a0) (by decide +kernel) (by exact e61) ?_
                  refine ev_r_aload_n (pc := 198) (k := 0) (v := .ref 221) trivial (by decide +kernel) (by exact e60) ?_
                  refine ev_r_getC (pc := 199) (y := 24) (ci := 2) (f := 3) (fin := 1) (k' := 225) (by decide +kernel) (by decide +kernel) (by exact ev_ob_221) rfl rfl ?_
                  refine ev_r_iload_n (pc := 202) (k := 2) (v := Int32.ofInt x3) (by decide +kernel) (by exact e62) ?_
                  refine ev_r_virt (pc := 203) (y := 170) (mi := 37) (na := 4) (k := 221) (as := [ev_nv ((226 + 1)), .int (Int32.ofInt a0), ev_nv ((225 + 1)), .int (Int32.ofInt x3)]) (rest := []) (encc := ev_oU) (Q := ev_PU) (fun x S1 h => jt_37 d (by omega) Q ((226 + 1)) a0 ((225 + 1)) x3 (by exact (Or.inr ev_ab_226)) ha0 (by exact (Or.inr ev_ab_225)) hx3 s66 x S1 h) (by exact ev_ob_221) (by decide +kernel) (by decide +kernel) (by decide +kernel) (by decide +kernel) rfl (by (try simp only [ev_sum, ev_nv_cat]); first | done | rfl) ?_
                  intro _ s68 _
                  show ev_w _ _ _ _ _ [] _ _ _ _
                  exact hK206  s68 _ (by exact e60) (by exact e61) (by exact e62) (by exact e63)
              · intro K159 hK159
                refine ev_r_icmp (pc := 147) (q := .le) (o := 12) (t := 159) (c := x15 ≤ 1) (by decide +kernel) (ev_k_le hx15 (by decide)) (by decide +kernel) ?_ ?_
                · intro c69
                  exact hK159  s48 _ (by exact e42) (by exact e43) (by exact e44) (by exact e47)
                · intro c69
                  refine ev_r_aload_n (pc := 150) (k := 0) (v := .ref 221) trivial (by decide +kernel) (by exact e42) ?_
                  refine ev_r_getC (pc := 151) (y := 11) (ci := 2) (f := 0) (fin := 1) (k' := 222) (by decide +kernel) (by decide +kernel) (by exact ev_ob_221) rfl rfl ?_
                  refine ev_r_iload_n (pc := 154) (k := 2) (v := Int32.ofInt x3) (by decide +kernel) (by exact e44) ?_
                  refine ev_r_iald (pc := 155) hx3 (by decide +kernel) (by exact ev_ab_222) ?_
                  intro x70 hx70
                  refine ev_r_if (pc := 156) (q := .ne) (o := 50) (t := 206) (c := x70 ≠ 0) (by decide +kernel) (ev_k_ne hx70 ev_rng0) (by decide +kernel) ?_ ?_
                  · intro c71
                    exact hK206  s48 _ (by exact e42) (by exact e43) (by exact e44) (by exact e47)
                  · intro c71
                    exact hK159  s48 _ (by exact e42) (by exact e43) (by exact e44) (by exact e47)
        · intro K140 hK140
          refine ev_r_if (pc := 123) (q := .eq) (o := 17) (t := 140) (c := x16 = 0) (by decide +kernel) (ev_k_eq hx16 ev_rng0) (by decide +kernel) ?_ ?_
          · intro c72
            exact hK140  s40 _ (by exact (ev_l1 e32 (by decide) (by decide))) (by exact (ev_l1 e33 (by decide) (by decide))) (by exact (ev_l1 e34 (by decide) (by decide))) (by exact (ev_l1 e35 (by decide) (by decide))) (by exact (ev_l1 e36 (by decide) (by decide))) (by exact (ev_lk_st1 e37 (by decide) rfl))
          · intro c72
            refine ev_r_aload_n (pc := 126) (k := 0) (v := .ref 221) trivial (by decide +kernel) (by exact (ev_l1 e32 (by decide) (by decide))) ?_
            refine ev_r_aload_n (pc := 127) (k := 0) (v := .ref 221) trivial (by decide +kernel) (by exact (ev_l1 e32 (by decide) (by decide))) ?_
            refine ev_r_getC (pc := 128) (y := 20) (ci := 2) (f := 2) (fin := 1) (k' := 224) (by decide +kernel) (by decide +kernel) (by exact ev_ob_221) rfl rfl ?_
            refine ev_r_iload_n (pc := 131) (k := 1) (v := Int32.ofInt a0) (by decide +kernel) (by exact (ev_l1 e33 (by decide) (by decide))) ?_
            refine ev_r_aload_n (pc := 132) (k := 0) (v := .ref 221) trivial (by decide +kernel) (by exact (ev_l1 e32 (by decide) (by decide))) ?_
            refine ev_r_getC (pc := 133) (y := 20) (ci := 2) (f := 2) (fin := 1) (k' := 224) (by decide +kernel) (by decide +kernel) (by exact ev_ob_221) rfl rfl ?_
            refine ev_r_iload_n (pc := 136) (k := 2) (v := Int32.ofInt x3) (by decide +kernel) (by exact (ev_l1 e34 (by decide) (by decide))) ?_
            refine ev_r_virt (pc := 137) (y := 170) (mi := 37) (na := 4) (k := 221) (as := [ev_nv ((224 + 1)), .int (Int32.ofInt a0), ev_nv ((224 + 1)), .int (Int32.ofInt x3)]) (rest := []) (encc := ev_oU) (Q := ev_PU) (fun x S1 h => jt_37 d (by omega) Q ((224 + 1)) a0 ((224 + 1)) x3 (by exact (Or.inr ev_ab_224)) ha0 (by exact (Or.inr ev_ab_224)) hx3 s40 x S1 h) (by exact ev_ob_221) (by decide +kernel) (by decide +kernel) (by decide +kernel) (by decide +kernel) rfl (by (try simp only [ev_sum, ev_nv_cat]); first | done | rfl) ?_
            intro _ s73 _
            show ev_w _ _ _ _ _ [] _ _ _ _
            exact hK140  s73 _ (by exact (ev_l1 e32 (by decide) (by decide))) (by exact (ev_l1 e33 (by decide) (by decide))) (by exact (ev_l1 e34 (by decide) (by decide))) (by exact (ev_l1 e35 (by decide) (by decide))) (by exact (ev_l1 e36 (by decide) (by decide))) (by exact (ev_lk_st1 e37 (by decide) rfl))
      · intro K106 hK106
        refine ev_r_if (pc := 77) (q := .eq) (o := 18) (t := 95) (c := x17 = 0) (by decide +kernel) (ev_k_eq hx17 ev_rng0) (by decide +kernel) ?_ ?_
        · intro c74
          refine ev_r_aload_n (pc := 95) (k := 0) (v := .ref 221) trivial (by decide +kernel) (by exact (ev_l1 e19 (by decide) (by decide))) ?_
          refine ev_r_getC (pc := 96) (y := 17) (ci := 2) (f := 1) (fin := 1) (k' := 223) (by decide +kernel) (by decide +kernel) (by exact ev_ob_221) rfl rfl ?_
          refine ev_r_iload_n (pc := 99) (k := 2) (v := Int32.ofInt x3) (by decide +kernel) (by exact (ev_l1 e21 (by decide) (by decide))) ?_
          refine ev_r_iald (pc := 100) hx3 (by decide +kernel) (by exact ev_ab_223) ?_
          intro x75 hx75
          refine ev_r_iconst (pc := 101) (k := 1) (by decide +kernel) ?_
          refine ev_r_iadd (pc := 102) (by decide +kernel) ?_
          intro x76 hx76
          refine ev_r_iload (pc := 103) (k := 4) (v := Int32.ofInt x16) (by decide +kernel) (by exact (ev_lk_st1 e23 (by decide) rfl)) ?_
          refine ev_r_imul (pc := 105) (by decide +kernel) ?_
          intro x77 hx77
          exact hK106 x17 hx17 x77 hx77 s28 _ (by exact (ev_l1 e19 (by decide) (by decide))) (by exact (ev_l1 e20 (by decide) (by decide))) (by exact (ev_l1 e21 (by decide) (by decide))) (by exact (ev_l1 e22 (by decide) (by decide))) (by exact (ev_lk_st1 e23 (by decide) rfl)) (by exact ev_lk_st1_self)
        · intro c74
          refine ev_r_aload_n (pc := 80) (k := 0) (v := .ref 221) trivial (by decide +kernel) (by exact (ev_l1 e19 (by decide) (by decide))) ?_
          refine ev_r_getC (pc := 81) (y := 17) (ci := 2) (f := 1) (fin := 1) (k' := 223) (by decide +kernel) (by decide +kernel) (by exact ev_ob_221) rfl rfl ?_
          refine ev_r_iload_n (pc := 84) (k := 2) (v := Int32.ofInt x3) (by decide +kernel) (by exact (ev_l1 e21 (by decide) (by decide))) ?_
          refine ev_r_iald (pc := 85) hx3 (by decide +kernel) (by exact ev_ab_223) ?_
          intro x78 hx78
          refine ev_r_iload_n (pc := 86) (k := 3) (v := Int32.ofInt x15) (by decide +kernel) (by exact (ev_l1 e22 (by decide) (by decide))) ?_
          refine ev_r_iconst (pc := 87) (k := 1) (by decide +kernel) ?_
          refine ev_r_iadd (pc := 88) (by decide +kernel) ?_
          intro x79 hx79
          refine ev_r_imul (pc := 89) (by decide +kernel) ?_
          intro x80 hx80
          refine ev_r_iconst (pc := 90) (k := 2) (by decide +kernel) ?_
          refine ev_r_iadd (pc := 91) (by decide +kernel) ?_
          intro x81 hx81
          refine ev_r_goto (pc := 92) (o := 14) (t := 106) (by decide +kernel) (by decide +kernel) ?_
          exact hK106 x17 hx17 x81 hx81 s28 _ (by exact (ev_l1 e19 (by decide) (by decide))) (by exact (ev_l1 e20 (by decide) (by decide))) (by exact (ev_l1 e21 (by decide) (by decide))) (by exact (ev_l1 e22 (by decide) (by decide))) (by exact (ev_lk_st1 e23 (by decide) rfl)) (by exact ev_lk_st1_self)
    · intro K54 hK54
      refine ev_r_icmp (pc := 46) (q := .ne) (o := 7) (t := 53) (c := x14 ≠ (-1)) (by decide +kernel) (ev_k_ne hx14 (by decide)) (by decide +kernel) ?_ ?_
      · intro c82
        refine ev_r_iconst (pc := 53) (k := 0) (by decide +kernel) ?_
        exact hK54 x11 hx11 x14 hx14 0 (by decide) s6 _ (by exact (ev_l1 (ev_l1 (ev_l1 (by rfl) (by decide) (by decide)) (by decide) (by decide)) (by decide) (by decide))) (by exact (ev_l1 (ev_l1 (ev_lk_st1 (by rfl) (by decide) rfl) (by decide) (by decide)) (by decide) (by decide))) (by exact (ev_l1 (ev_lk_st1 ev_lk_st1_self (by decide) rfl) (by decide) (by decide))) (by exact (ev_lk_st1 ev_lk_st1_self (by decide) rfl)) (by exact ev_lk_st1_self)
      · intro c82
        refine ev_r_iconst (pc := 49) (k := 1) (by decide +kernel) ?_
        refine ev_r_goto (pc := 50) (o := 4) (t := 54) (by decide +kernel) (by decide +kernel) ?_
        exact hK54 x11 hx11 x14 hx14 1 (by decide) s6 _ (by exact (ev_l1 (ev_l1 (ev_l1 (by rfl) (by decide) (by decide)) (by decide) (by decide)) (by decide) (by decide))) (by exact (ev_l1 (ev_l1 (ev_lk_st1 (by rfl) (by decide) rfl) (by decide) (by decide)) (by decide) (by decide))) (by exact (ev_l1 (ev_lk_st1 ev_lk_st1_self (by decide) rfl) (by decide) (by decide))) (by exact (ev_lk_st1 ev_lk_st1_self (by decide) rfl)) (by exact ev_lk_st1_self)
  · intro c8
    exact ev_r_return (pc := 21) (x := ()) trivial (by decide +kernel) (by decide +kernel) rfl
def jb_33_12 (Q : Nat) (a0 : Int)  (K12 : Int → Int → ev_St → Option ((Unit) × ev_St)) (x4 : Int) (x5 : Int) (s11 : ev_St) : Option ((Unit) × ev_St) := if 400 ≤ x5 then (some ((), s11)) else (ev_b (s11.2.2.1 221 9) fun r13 => ev_if (r13 ≠ 0) (ev_bd (jm_59 Q ((r13 - 1)) x4 s11) fun x16 s15 => if x16 = 0 then (some ((), s15)) else (ev_if ((0 : Int) ≤ x4 ∧ x4 < (ev_aln 222 : Int)) (ev_b (s15.1 222 (Int.toNat x4)) fun x18 => ev_jn (fun  (s24 : ev_St) => ev_if ((0 : Int) ≤ a0 ∧ a0 < (ev_aln 222 : Int)) (ev_b (s24.1 222 (Int.toNat a0)) fun x25 => ev_jn (fun  (s31 : ev_St) => ev_bd (jm_37 Q ((227 + 1)) a0 ((227 + 1)) x4 s31) fun _ s32 => ev_if ((0 : Int) ≤ a0 ∧ a0 < (ev_aln 222 : Int)) (ev_b (s32.1 222 (Int.toNat a0)) fun x33 => ev_if ((0 : Int) ≤ x4 ∧ x4 < (ev_aln 222 : Int)) (ev_b (s32.1 222 (Int.toNat x4)) fun x34 => ev_ck (x33 + x34) fun x35 => ev_b (ev_imin 1000000 x35) fun x36 => ev_if ((0 : Int) ≤ a0 ∧ a0 < (ev_aln 222 : Int)) (ev_b (ev_pI s32 222 (Int.toNat a0) x36) fun s37 => ev_if ((0 : Int) ≤ a0 ∧ a0 < (ev_aln 223 : Int)) (ev_b (s37.1 223 (Int.toNat a0)) fun x38 => ev_if ((0 : Int) ≤ x4 ∧ x4 < (ev_aln 223 : Int)) (ev_b (s37.1 223 (Int.toNat x4)) fun x39 => ev_ck (x38 + x39) fun x40 => ev_b (ev_imin 1000000 x40) fun x41 => ev_if ((0 : Int) ≤ a0 ∧ a0 < (ev_aln 223 : Int)) (ev_b (ev_pI s37 223 (Int.toNat a0) x41) fun s42 => ev_b (s42.2.2.1 221 9) fun r43 => ev_if (r43 ≠ 0) (ev_if ((0 : Int) ≤ x4 ∧ x4 < (ev_aln (((r43 - 1) + 5)) : Int)) (ev_b (s42.1 (((r43 - 1) + 5)) (Int.toNat x4)) fun x45 => ev_ck (x5 + 1) fun x46 => K12 x45 x46 s42))))))))) fun K108 => if x25 ≠ 0 then (K108  s24) else (ev_bd (jm_37 Q ((224 + 1)) a0 ((224 + 1)) x4 s24) fun _ s48 => ev_bd (jm_37 Q ((225 + 1)) a0 ((225 + 1)) x4 s48) fun _ s49 => ev_bd (jm_37 Q ((226 + 1)) a0 ((226 + 1)) x4 s49) fun _ s50 => K108  s50))) fun K57 => if x18 = 0 then (K57  s15) else (ev_bd (jm_35 Q ((225 + 1)) a0 s15) fun _ s52 => ev_bd (jm_35 Q ((226 + 1)) a0 s52) fun _ s53 => K57  s53)))))
def jl_33_12 (Q : Nat) (a0 : Int)  : Nat → Int → Int → ev_St → Option ((Unit) × ev_St)
  | 0 => fun _ _ _ => none
  | q + 1 => jb_33_12 Q a0  (jl_33_12 Q a0  q)
theorem jbt_33_12 (d : Nat) (hd : 3 ≤ d + 1) (Q : Nat) (a0 : Int) (ha0 : ev_rng a0)   (K12 : Int → Int → ev_St → Option ((Unit) × ev_St)) (hK12 : ∀ (x4 : Int) (hx4 : ev_rng x4), ∀ (x5 : Int) (hx5 : ev_rng x5), ∀ (s11 : ev_St) (w6 : List (Nat × Value)), ev_lk w6 0 = some (.ref 221) → ev_lk w6 1 = some (.int (Int32.ofInt a0)) → ev_lk w6 2 = some (.int (Int32.ofInt x4)) → ev_lk w6 3 = some (.int (Int32.ofInt x5)) → ev_w none (ev_Mof 33) d 12 w6 [] s11 (K12 x4 x5 s11) ev_eU ev_PU) : ∀ (x4 : Int) (hx4 : ev_rng x4), ∀ (x5 : Int) (hx5 : ev_rng x5), ∀ (s11 : ev_St) (w6 : List (Nat × Value)), ev_lk w6 0 = some (.ref 221) → ev_lk w6 1 = some (.int (Int32.ofInt a0)) → ev_lk w6 2 = some (.int (Int32.ofInt x4)) → ev_lk w6 3 = some (.int (Int32.ofInt x5)) → ev_w none (ev_Mof 33) d 12 w6 [] s11 (jb_33_12 Q a0  K12 x4 x5 s11) ev_eU ev_PU := by
  intro x4 hx4 x5 hx5 s11 w6 e7 e8 e9 e10
  unfold jb_33_12
  refine ev_r_iload_n (pc := 12) (k := 3) (v := Int32.ofInt x5) (by decide +kernel) (by exact e10) ?_
  refine ev_r_sipush (pc := 13) (k := 400) (by decide +kernel) (by decide +kernel) ?_
  refine ev_r_icmp (pc := 16) (q := .ge) (o := 170) (t := 186) (c := 400 ≤ x5) (by decide +kernel) (ev_k_ge hx5 (by decide)) (by decide +kernel) ?_ ?_
  · intro c12
    exact ev_r_return (pc := 186) (x := ()) trivial (by decide +kernel) (by decide +kernel) rfl
  · intro c12
    refine ev_r_aload_n (pc := 19) (k := 0) (v := .ref 221) trivial (by decide +kernel) (by exact e7) ?_
    refine ev_r_getR (pc := 20) (y := 47) (ci := 2) (f := 9) (fin := 0) (t := 5) (by decide +kernel) (by decide +kernel) (by exact ev_ob_221) rfl rfl ?_
    intro r13 hr13
    have hr13 : r13 = 0 ∨ ev_isOb (r13 - 1) 5 = true := hr13
    refine ev_r_iload_n (pc := 23) (k := 2) (v := Int32.ofInt x4) (by decide +kernel) (by exact e9) ?_
    refine ev_r_chk ?_
    intro c14
    refine ev_r_dr (r := r13) (fun v => [.int (Int32.ofInt x4), v]) c14 ?_
    refine ev_r_virt (pc := 24) (y := 63) (mi := 59) (na := 1) (k := (r13 - 1)) (as := [.int (Int32.ofInt x4)]) (rest := []) (encc := ev_oI) (Q := ev_bl) (fun x S1 h => jt_59 d (by omega) Q ((r13 - 1)) x4 (hr13.resolve_left c14) hx4 s11 x S1 h) (by exact (hr13.resolve_left c14)) (by decide +kernel) (by decide +kernel) (by decide +kernel) (by decide +kernel) rfl (by (try simp only [ev_sum, ev_nv_cat]); first | done | rfl) ?_
    intro x16 s15 hx16
    replace hx16 := ev_bl_rng hx16
    show ev_w _ _ _ _ _ [.int (Int32.ofInt x16)] _ _ _ _
    refine ev_r_if (pc := 27) (q := .eq) (o := 159) (t := 186) (c := x16 = 0) (by decide +kernel) (ev_k_eq hx16 ev_rng0) (by decide +kernel) ?_ ?_
    · intro c17
      exact ev_r_return (pc := 186) (x := ()) trivial (by decide +kernel) (by decide +kernel) rfl
    · intro c17
      refine ev_r_aload_n (pc := 30) (k := 0) (v := .ref 221) trivial (by decide +kernel) (by exact e7) ?_
      refine ev_r_getC (pc := 31) (y := 11) (ci := 2) (f := 0) (fin := 1) (k' := 222) (by decide +kernel) (by decide +kernel) (by exact ev_ob_221) rfl rfl ?_
      refine ev_r_iload_n (pc := 34) (k := 2) (v := Int32.ofInt x4) (by decide +kernel) (by exact e9) ?_
      refine ev_r_iald (pc := 35) hx4 (by decide +kernel) (by exact ev_ab_222) ?_
      intro x18 hx18
      refine ev_r_jn (Q := fun K => ∀ (s24 : ev_St) (w19 : List (Nat × Value)), ev_lk w19 0 = some (.ref 221) → ev_lk w19 1 = some (.int (Int32.ofInt a0)) → ev_lk w19 2 = some (.int (Int32.ofInt x4)) → ev_lk w19 3 = some (.int (Int32.ofInt x5)) → ev_w none (ev_Mof 33) d 57 w19 [] s24 (K  s24) ev_eU ev_PU) ?_ ?_
      · intro  s24 w19 e20 e21 e22 e23
        refine ev_r_aload_n (pc := 57) (k := 0) (v := .ref 221) trivial (by decide +kernel) (by exact e20) ?_
        refine ev_r_getC (pc := 58) (y := 11) (ci := 2) (f := 0) (fin := 1) (k' := 222) (by decide +kernel) (by decide +kernel) (by exact ev_ob_221) rfl rfl ?_
        refine ev_r_iload_n (pc := 61) (k := 1) (v := Int32.ofInt a0) (by decide +kernel) (by exact e21) ?_
        refine ev_r_iald (pc := 62) ha0 (by decide +kernel) (by exact ev_ab_222) ?_
        intro x25 hx25
        refine ev_r_jn (Q := fun K => ∀ (s31 : ev_St) (w26 : List (Nat × Value)), ev_lk w26 0 = some (.ref 221) → ev_lk w26 1 = some (.int (Int32.ofInt a0)) → ev_lk w26 2 = some (.int (Int32.ofInt x4)) → ev_lk w26 3 = some (.int (Int32.ofInt x5)) → ev_w none (ev_Mof 33) d 108 w26 [] s31 (K  s31) ev_eU ev_PU) ?_ ?_
        · intro  s31 w26 e27 e28 e29 e30
          refine ev_r_aload_n (pc := 108) (k := 0) (v := .ref 221) trivial (by decide +kernel) (by exact e27) ?_
          refine ev_r_aload_n (pc := 109) (k := 0) (v := .ref 221) trivial (by decide +kernel) (by exact e27) ?_
          refine ev_r_getC (pc := 110) (y := 30) (ci := 2) (f := 5) (fin := 1) (k' := 227) (by decide +kernel) (by decide +kernel) (by exact ev_ob_221) rfl rfl ?_
          refine ev_r_iload_n (pc := 113) (k := 1) (v := Int32.ofInt a0) (by decide +kernel) (by exact e28) ?_
          refine ev_r_aload_n (pc := 114) (k := 0) (v := .ref 221) trivial (by decide +kernel) (by exact e27) ?_
          refine ev_r_getC (pc := 115) (y := 30) (ci := 2) (f := 5) (fin := 1) (k' := 227) (by decide +kernel) (by decide +kernel) (by exact ev_ob_221) rfl rfl ?_
          refine ev_r_iload_n (pc := 118) (k := 2) (v := Int32.ofInt x4) (by decide +kernel) (by exact e29) ?_
          refine ev_r_virt (pc := 119) (y := 170) (mi := 37) (na := 4) (k := 221) (as := [ev_nv ((227 + 1)), .int (Int32.ofInt a0), ev_nv ((227 + 1)), .int (Int32.ofInt x4)]) (rest := []) (encc := ev_oU) (Q := ev_PU) (fun x S1 h => jt_37 d (by omega) Q ((227 + 1)) a0 ((227 + 1)) x4 (by exact (Or.inr ev_ab_227)) ha0 (by exact (Or.inr ev_ab_227)) hx4 s31 x S1 h) (by exact ev_ob_221) (by decide +kernel) (by decide +kernel) (by decide +kernel) (by decide +kernel) rfl (by (try simp only [ev_sum, ev_nv_cat]); first | done | rfl) ?_
          intro _ s32 _
          show ev_w _ _ _ _ _ [] _ _ _ _
          refine ev_r_aload_n (pc := 122) (k := 0) (v := .ref 221) trivial (by decide +kernel) (by exact e27) ?_
          refine ev_r_getC (pc := 123) (y := 11) (ci := 2) (f := 0) (fin := 1) (k' := 222) (by decide +kernel) (by decide +kernel) (by exact ev_ob_221) rfl rfl ?_
          refine ev_r_iload_n (pc := 126) (k := 1) (v := Int32.ofInt a0) (by decide +kernel) (by exact e28) ?_
          refine ev_r_ldc (pc := 127) (y := 163) (k := 1000000) (by decide +kernel) (by decide +kernel) ?_
          refine ev_r_aload_n (pc := 129) (k := 0) (v := .ref 221) trivial (by decide +kernel) (by exact e27) ?_
          refine ev_r_getC (pc := 130) (y := 11) (ci := 2) (f := 0) (fin := 1) (k' := 222) (by decide +kernel) (by decide +kernel) (by exact ev_ob_221) rfl rfl ?_
          refine ev_r_iload_n (pc := 133) (k := 1) (v := Int32.ofInt a0) (by decide +kernel) (by exact e28) ?_
          refine ev_r_iald (pc := 134) ha0 (by decide +kernel) (by exact ev_ab_222) ?_
          intro x33 hx33
          refine ev_r_aload_n (pc := 135) (k := 0) (v := .ref 221) trivial (by decide +kernel) (by exact e27) ?_
          refine ev_r_getC (pc := 136) (y := 11) (ci := 2) (f := 0) (fin := 1) (k' := 222) (by decide +kernel) (by decide +kernel) (by exact ev_ob_221) rfl rfl ?_
          refine ev_r_iload_n (pc := 139) (k := 2) (v := Int32.ofInt x4) (by decide +kernel) (by exact e29) ?_
          refine ev_r_iald (pc := 140) hx4 (by decide +kernel) (by exact ev_ab_222) ?_
          intro x34 hx34
          refine ev_r_iadd (pc := 141) (by decide +kernel) ?_
          intro x35 hx35
          refine ev_r_mm1 (pc := 142) (y := 164) (kd := 9) (Or.inl rfl) (by decide +kernel) (by decide +kernel) (by (try simp only [ev_sum, ev_nv_cat]); first | done | rfl) ?_
          intro x36 hx36
          refine ev_r_iast (pc := 145) hx36 ha0 (by decide +kernel) (by exact ev_ab_222) ?_
          intro s37
          refine ev_r_aload_n (pc := 146) (k := 0) (v := .ref 221) trivial (by decide +kernel) (by exact e27) ?_
          refine ev_r_getC (pc := 147) (y := 17) (ci := 2) (f := 1) (fin := 1) (k' := 223) (by decide +kernel) (by decide +kernel) (by exact ev_ob_221) rfl rfl ?_
          refine ev_r_iload_n (pc := 150) (k := 1) (v := Int32.ofInt a0) (by decide +kernel) (by exact e28) ?_
          refine ev_r_ldc (pc := 151) (y := 163) (k := 1000000) (by decide +kernel) (by decide +kernel) ?_
          refine ev_r_aload_n (pc := 153) (k := 0) (v := .ref 221) trivial (by decide +kernel) (by exact e27) ?_
          refine ev_r_getC (pc := 154) (y := 17) (ci := 2) (f := 1) (fin := 1) (k' := 223) (by decide +kernel) (by decide +kernel) (by exact ev_ob_221) rfl rfl ?_
          refine ev_r_iload_n (pc := 157) (k := 1) (v := Int32.ofInt a0) (by decide +kernel) (by exact e28) ?_
          refine ev_r_iald (pc := 158) ha0 (by decide +kernel) (by exact ev_ab_223) ?_
          intro x38 hx38
          refine ev_r_aload_n (pc := 159) (k := 0) (v := .ref 221) trivial (by decide +kernel) (by exact e27) ?_
          refine ev_r_getC (pc := 160) (y := 17) (ci := 2) (f := 1) (fin := 1) (k' := 223) (by decide +kernel) (by decide +kernel) (by exact ev_ob_221) rfl rfl ?_
          refine ev_r_iload_n (pc := 163) (k := 2) (v := Int32.ofInt x4) (by decide +kernel) (by exact e29) ?_
          refine ev_r_iald (pc := 164) hx4 (by decide +kernel) (by exact ev_ab_223) ?_
          intro x39 hx39
          refine ev_r_iadd (pc := 165) (by decide +kernel) ?_
          intro x40 hx40
          refine ev_r_mm1 (pc := 166) (y := 164) (kd := 9) (Or.inl rfl) (by decide +kernel) (by decide +kernel) (by (try simp only [ev_sum, ev_nv_cat]); first | done | rfl) ?_
          intro x41 hx41
          refine ev_r_iast (pc := 169) hx41 ha0 (by decide +kernel) (by exact ev_ab_223) ?_
          intro s42
          refine ev_r_aload_n (pc := 170) (k := 0) (v := .ref 221) trivial (by decide +kernel) (by exact e27) ?_
          refine ev_r_getR (pc := 171) (y := 47) (ci := 2) (f := 9) (fin := 0) (t := 5) (by decide +kernel) (by decide +kernel) (by exact ev_ob_221) rfl rfl ?_
          intro r43 hr43
          have hr43 : r43 = 0 ∨ ev_isOb (r43 - 1) 5 = true := hr43
          refine ev_r_chk ?_
          intro c44
          refine ev_r_dr (r := r43) (fun v => [v]) c44 ?_
          refine ev_r_getC (pc := 174) (y := 174) (ci := 5) (f := 4) (fin := 2) (k' := ((r43 - 1) + 5)) (by decide +kernel) (by decide +kernel) (by exact (hr43.resolve_left c44)) rfl rfl ?_
          refine ev_r_iload_n (pc := 177) (k := 2) (v := Int32.ofInt x4) (by decide +kernel) (by exact e29) ?_
          refine ev_r_iald (pc := 178) hx4 (by decide +kernel) (by exact (ev_fo_5_4 (hr43.resolve_left c44))) ?_
          intro x45 hx45
          refine ev_r_istore_n (pc := 179) (k := 2) (by decide +kernel) (by decide +kernel) rfl ?_
          refine ev_r_iinc (pc := 180) (k := 3) (c := 1) (x := x5) (by decide +kernel) (by decide +kernel) (by exact (ev_l1 e30 (by decide) (by decide))) (fun _ => rfl) ?_
          intro x46 hx46
          refine ev_r_goto (pc := 183) (o := (-171)) (t := 12) (by decide +kernel) (by decide +kernel) ?_
          exact hK12 x45 hx45 x46 hx46 s42 _ (by exact (ev_l1 (ev_l1 e27 (by decide) (by decide)) (by decide) (by decide))) (by exact (ev_l1 (ev_lk_st1 e28 (by decide) rfl) (by decide) (by decide))) (by exact (ev_lk_st1 ev_lk_st1_self (by decide) rfl)) (by exact ev_lk_st1_self)
        · intro K108 hK108
          refine ev_r_if (pc := 63) (q := .ne) (o := 45) (t := 108) (c := x25 ≠ 0) (by decide +kernel) (ev_k_ne hx25 ev_rng0) (by decide +kernel) ?_ ?_
          · intro c47
            exact hK108  s24 _ (by exact e20) (by exact e21) (by exact e22) (by exact e23)
          · intro c47
            refine ev_r_aload_n (pc := 66) (k := 0) (v := .ref 221) trivial (by decide +kernel) (by exact e20) ?_
            refine ev_r_aload_n (pc := 67) (k := 0) (v := .ref 221) trivial (by decide +kernel) (by exact e20) ?_
            refine ev_r_getC (pc := 68) (y := 20) (ci := 2) (f := 2) (fin := 1) (k' := 224) (by decide +kernel) (by decide +kernel) (by exact ev_ob_221) rfl rfl ?_
            refine ev_r_iload_n (pc := 71) (k := 1) (v := Int32.ofInt a0) (by decide +kernel) (by exact e21) ?_
            refine ev_r_aload_n (pc := 72) (k := 0) (v := .ref 221) trivial (by decide +kernel) (by exact e20) ?_
            refine ev_r_getC (pc := 73) (y := 20) (ci := 2) (f := 2) (fin := 1) (k' := 224) (by decide +kernel) (by decide +kernel) (by exact ev_ob_221) rfl rfl ?_
            refine ev_r_iload_n (pc := 76) (k := 2) (v := Int32.ofInt x4) (by decide +kernel) (by exact e22) ?_
            refine ev_r_virt (pc := 77) (y := 170) (mi := 37) (na := 4) (k := 221) (as := [ev_nv ((224 + 1)), .int (Int32.ofInt a0), ev_nv ((224 + 1)), .int (Int32.ofInt x4)]) (rest := []) (encc := ev_oU) (Q := ev_PU) (fun x S1 h => jt_37 d (by omega) Q ((224 + 1)) a0 ((224 + 1)) x4 (by exact (Or.inr ev_ab_224)) ha0 (by exact (Or.inr ev_ab_224)) hx4 s24 x S1 h) (by exact ev_ob_221) (by decide +kernel) (by decide +kernel) (by decide +kernel) (by decide +kernel) rfl (by (try simp only [ev_sum, ev_nv_cat]); first | done | rfl) ?_
            intro _ s48 _
            show ev_w _ _ _ _ _ [] _ _ _ _
            refine ev_r_aload_n (pc := 80) (k := 0) (v := .ref 221) trivial (by decide +kernel) (by exact e20) ?_
            refine ev_r_aload_n (pc := 81) (k := 0) (v := .ref 221) trivial (by decide +kernel) (by exact e20) ?_
            refine ev_r_getC (pc := 82) (y := 24) (ci := 2) (f := 3) (fin := 1) (k' := 225) (by decide +kernel) (by decide +kernel) (by exact ev_ob_221) rfl rfl ?_
            refine ev_r_iload_n (pc := 85) (k := 1) (v := Int32.ofInt a0) (by decide +kernel) (by exact e21) ?_
            refine ev_r_aload_n (pc := 86) (k := 0) (v := .ref 221) trivial (by decide +kernel) (by exact e20) ?_
            refine ev_r_getC (pc := 87) (y := 24) (ci := 2) (f := 3) (fin := 1) (k' := 225) (by decide +kernel) (by decide +kernel) (by exact ev_ob_221) rfl rfl ?_
            refine ev_r_iload_n (pc := 90) (k := 2) (v := Int32.ofInt x4) (by decide +kernel) (by exact e22) ?_
            refine ev_r_virt (pc := 91) (y := 170) (mi := 37) (na := 4) (k := 221) (as := [ev_nv ((225 + 1)), .int (Int32.ofInt a0), ev_nv ((225 + 1)), .int (Int32.ofInt x4)]) (rest := []) (encc := ev_oU) (Q := ev_PU) (fun x S1 h => jt_37 d (by omega) Q ((225 + 1)) a0 ((225 + 1)) x4 (by exact (Or.inr ev_ab_225)) ha0 (by exact (Or.inr ev_ab_225)) hx4 s48 x S1 h) (by exact ev_ob_221) (by decide +kernel) (by decide +kernel) (by decide +kernel) (by decide +kernel) rfl (by (try simp only [ev_sum, ev_nv_cat]); first | done | rfl) ?_
            intro _ s49 _
            show ev_w _ _ _ _ _ [] _ _ _ _
            refine ev_r_aload_n (pc := 94) (k := 0) (v := .ref 221) trivial (by decide +kernel) (by exact e20) ?_
            refine ev_r_aload_n (pc := 95) (k := 0) (v := .ref 221) trivial (by decide +kernel) (by exact e20) ?_
            refine ev_r_getC (pc := 96) (y := 27) (ci := 2) (f := 4) (fin := 1) (k' := 226) (by decide +kernel) (by decide +kernel) (by exact ev_ob_221) rfl rfl ?_
            refine ev_r_iload_n (pc := 99) (k := 1) (v := Int32.ofInt a0) (by decide +kernel) (by exact e21) ?_
            refine ev_r_aload_n (pc := 100) (k := 0) (v := .ref 221) trivial (by decide +kernel) (by exact e20) ?_
            refine ev_r_getC (pc := 101) (y := 27) (ci := 2) (f := 4) (fin := 1) (k' := 226) (by decide +kernel) (by decide +kernel) (by exact ev_ob_221) rfl rfl ?_
            refine ev_r_iload_n (pc := 104) (k := 2) (v := Int32.ofInt x4) (by decide +kernel) (by exact e22) ?_
            refine ev_r_virt (pc := 105) (y := 170) (mi := 37) (na := 4) (k := 221) (as := [ev_nv ((226 + 1)), .int (Int32.ofInt a0), ev_nv ((226 + 1)), .int (Int32.ofInt x4)]) (rest := []) (encc := ev_oU) (Q := ev_PU) (fun x S1 h => jt_37 d (by omega) Q ((226 + 1)) a0 ((226 + 1)) x4 (by exact (Or.inr ev_ab_226)) ha0 (by exact (Or.inr ev_ab_226)) hx4 s49 x S1 h) (by exact ev_ob_221) (by decide +kernel) (by decide +kernel) (by decide +kernel) (by decide +kernel) rfl (by (try simp only [ev_sum, ev_nv_cat]); first | done | rfl) ?_
            intro _ s50 _
            show ev_w _ _ _ _ _ [] _ _ _ _
            exact hK108  s50 _ (by exact e20) (by exact e21) (by exact e22) (by exact e23)
      · intro K57 hK57
        refine ev_r_if (pc := 36) (q := .eq) (o := 21) (t := 57) (c := x18 = 0) (by decide +kernel) (ev_k_eq hx18 ev_rng0) (by decide +kernel) ?_ ?_
        · intro c51
          exact hK57  s15 _ (by exact e7) (by exact e8) (by exact e9) (by exact e10)
        · intro c51
          refine ev_r_aload_n (pc := 39) (k := 0) (v := .ref 221) trivial (by decide +kernel) (by exact e7) ?_
          refine ev_r_aload_n (pc := 40) (k := 0) (v := .ref 221) trivial (by decide +kernel) (by exact e7) ?_
          refine ev_r_getC (pc := 41) (y := 24) (ci := 2) (f := 3) (fin := 1) (k' := 225) (by decide +kernel) (by decide +kernel) (by exact ev_ob_221) rfl rfl ?_
          refine ev_r_iload_n (pc := 44) (k := 1) (v := Int32.ofInt a0) (by decide +kernel) (by exact e8) ?_
          refine ev_r_virt (pc := 45) (y := 115) (mi := 35) (na := 2) (k := 221) (as := [ev_nv ((225 + 1)), .int (Int32.ofInt a0)]) (rest := []) (encc := ev_oU) (Q := ev_PU) (fun x S1 h => jt_35 d (by omega) Q ((225 + 1)) a0 (by exact (Or.inr ev_ab_225)) ha0 s15 x S1 h) (by exact ev_ob_221) (by decide +kernel) (by decide +kernel) (by decide +kernel) (by decide +kernel) rfl (by (try simp only [ev_sum, ev_nv_cat]); first | done | rfl) ?_
          intro _ s52 _
          show ev_w _ _ _ _ _ [] _ _ _ _
          refine ev_r_aload_n (pc := 48) (k := 0) (v := .ref 221) trivial (by decide +kernel) (by exact e7) ?_
          refine ev_r_aload_n (pc := 49) (k := 0) (v := .ref 221) trivial (by decide +kernel) (by exact e7) ?_
          refine ev_r_getC (pc := 50) (y := 27) (ci := 2) (f := 4) (fin := 1) (k' := 226) (by decide +kernel) (by decide +kernel) (by exact ev_ob_221) rfl rfl ?_
          refine ev_r_iload_n (pc := 53) (k := 1) (v := Int32.ofInt a0) (by decide +kernel) (by exact e8) ?_
          refine ev_r_virt (pc := 54) (y := 115) (mi := 35) (na := 2) (k := 221) (as := [ev_nv ((226 + 1)), .int (Int32.ofInt a0)]) (rest := []) (encc := ev_oU) (Q := ev_PU) (fun x S1 h => jt_35 d (by omega) Q ((226 + 1)) a0 (by exact (Or.inr ev_ab_226)) ha0 s52 x S1 h) (by exact ev_ob_221) (by decide +kernel) (by decide +kernel) (by decide +kernel) (by decide +kernel) rfl (by (try simp only [ev_sum, ev_nv_cat]); first | done | rfl) ?_
          intro _ s53 _
          show ev_w _ _ _ _ _ [] _ _ _ _
          exact hK57  s53 _ (by exact e7) (by exact e8) (by exact e9) (by exact e10)
theorem jlt_33_12 (d : Nat) (hd : 3 ≤ d + 1) (Q : Nat) (a0 : Int) (ha0 : ev_rng a0)   : ∀ q : Nat, ∀ (x4 : Int) (hx4 : ev_rng x4), ∀ (x5 : Int) (hx5 : ev_rng x5), ∀ (s11 : ev_St) (w6 : List (Nat × Value)), ev_lk w6 0 = some (.ref 221) → ev_lk w6 1 = some (.int (Int32.ofInt a0)) → ev_lk w6 2 = some (.int (Int32.ofInt x4)) → ev_lk w6 3 = some (.int (Int32.ofInt x5)) → ev_w none (ev_Mof 33) d 12 w6 [] s11 (jl_33_12 Q a0  q x4 x5 s11) ev_eU ev_PU := by
  intro q
  induction q with
  | zero =>
    intro x4 hx4 x5 hx5 s11 w6 e7 e8 e9 e10
    exact ev_w_none
  | succ q ih => exact jbt_33_12 d hd Q a0 ha0   _ ih
/-- MendBench$Facts.learnRow(I)V -/
def jm_33 (Q : Nat) (a0 : Int) (S : ev_St) : Option ((Unit) × ev_St) := ev_b (S.2.2.1 221 9) fun r1 => ev_if (r1 ≠ 0) (ev_if ((0 : Int) ≤ a0 ∧ a0 < (ev_aln (((r1 - 1) + 4)) : Int)) (ev_b (S.1 (((r1 - 1) + 4)) (Int.toNat a0)) fun x3 => jl_33_12 Q a0  Q x3 0 S))
theorem jt_33 (d : Nat) (hd : 3 ≤ d) (Q : Nat) (a0 : Int) (ha0 : ev_rng a0) (S : ev_St) (x : Unit) (S' : ev_St) (hJ : jm_33 Q a0 S = some (x, S')) : ev_Ref d 33 [.ref 221, .int (Int32.ofInt a0)] S (ev_eU x) S' (ev_PU x) := by
  obtain ⟨d, rfl⟩ : ∃ e, d = e + 1 := ⟨d - 1, by omega⟩
  refine ev_ref_of (P := ev_PU) (lv := [(0, .ref 221), (1, .int (Int32.ofInt a0))]) (by decide +kernel) (by (try simp only [ev_sum, ev_nv_cat]); first | done | rfl) (by (try simp only [lv_args, ev_nv_cat]); first | done | rfl) ?_ x S' hJ
  unfold jm_33
  refine ev_r_aload_n (pc := 0) (k := 0) (v := .ref 221) trivial (by decide +kernel) (by rfl) ?_
  refine ev_r_getR (pc := 1) (y := 47) (ci := 2) (f := 9) (fin := 0) (t := 5) (by decide +kernel) (by decide +kernel) (by exact ev_ob_221) rfl rfl ?_
  intro r1 hr1
  have hr1 : r1 = 0 ∨ ev_isOb (r1 - 1) 5 = true := hr1
  refine ev_r_chk ?_
  intro c2
  refine ev_r_dr (r := r1) (fun v => [v]) c2 ?_
  refine ev_r_getC (pc := 4) (y := 154) (ci := 5) (f := 3) (fin := 2) (k' := ((r1 - 1) + 4)) (by decide +kernel) (by decide +kernel) (by exact (hr1.resolve_left c2)) rfl rfl ?_
  refine ev_r_iload_n (pc := 7) (k := 1) (v := Int32.ofInt a0) (by decide +kernel) (by rfl) ?_
  refine ev_r_iald (pc := 8) ha0 (by decide +kernel) (by exact (ev_fo_5_3 (hr1.resolve_left c2))) ?_
  intro x3 hx3
  refine ev_r_istore_n (pc := 9) (k := 2) (by decide +kernel) (by decide +kernel) rfl ?_
  refine ev_r_iconst (pc := 10) (k := 0) (by decide +kernel) ?_
  refine ev_r_istore_n (pc := 11) (k := 3) (by decide +kernel) (by decide +kernel) rfl ?_
  exact jlt_33_12 d hd Q a0 ha0   Q x3 hx3 0 (by decide) S _ (by exact (ev_l1 (ev_l1 (by rfl) (by decide) (by decide)) (by decide) (by decide))) (by exact (ev_l1 (ev_lk_st1 (by rfl) (by decide) rfl) (by decide) (by decide))) (by exact (ev_lk_st1 ev_lk_st1_self (by decide) rfl)) (by exact ev_lk_st1_self)
/-- MendBench$Pattern.hasRows(I)Z -/
def jm_64 (Q : Nat) (a0 : Int) (S : ev_St) : Option ((Int) × ev_St) := if 16 ≤ a0 then (some (1, S)) else (if a0 ≠ 8 then (some (0, S)) else (some (1, S)))
theorem jt_64 (d : Nat) (hd : 1 ≤ d) (Q : Nat) (a0 : Int) (ha0 : ev_rng a0) (S : ev_St) (x : Int) (S' : ev_St) (hJ : jm_64 Q a0 S = some (x, S')) : ev_Ref d 64 [.int (Int32.ofInt a0)] S (ev_eI x) S' (ev_bl x) := by
  obtain ⟨d, rfl⟩ : ∃ e, d = e + 1 := ⟨d - 1, by omega⟩
  refine ev_ref_of (P := ev_bl) (lv := [(0, .int (Int32.ofInt a0))]) (by decide +kernel) (by (try simp only [ev_sum, ev_nv_cat]); first | done | rfl) (by (try simp only [lv_args, ev_nv_cat]); first | done | rfl) ?_ x S' hJ
  unfold jm_64
  refine ev_r_iload_n (pc := 0) (k := 0) (v := Int32.ofInt a0) (by decide +kernel) (by rfl) ?_
  refine ev_r_bipush (pc := 1) (k := 16) (by decide +kernel) (by decide +kernel) ?_
  refine ev_r_icmp (pc := 3) (q := .ge) (o := 9) (t := 12) (c := 16 ≤ a0) (by decide +kernel) (ev_k_ge ha0 (by decide)) (by decide +kernel) ?_ ?_
  · intro c1
    refine ev_r_iconst (pc := 12) (k := 1) (by decide +kernel) ?_
    refine ev_r_goto (pc := 13) (o := 4) (t := 17) (by decide +kernel) (by decide +kernel) ?_
    exact ev_r_ireturn (pc := 17) (x := 1) (v := Int32.ofInt 1) (ty := .boolean) (by decide : ev_bl 1) (by decide +kernel) (by decide +kernel) (ev_ret_bl (by decide : ev_bl 1)) rfl
  · intro c1
    refine ev_r_iload_n (pc := 6) (k := 0) (v := Int32.ofInt a0) (by decide +kernel) (by rfl) ?_
    refine ev_r_bipush (pc := 7) (k := 8) (by decide +kernel) (by decide +kernel) ?_
    refine ev_r_icmp (pc := 9) (q := .ne) (o := 7) (t := 16) (c := a0 ≠ 8) (by decide +kernel) (ev_k_ne ha0 (by decide)) (by decide +kernel) ?_ ?_
    · intro c2
      refine ev_r_iconst (pc := 16) (k := 0) (by decide +kernel) ?_
      exact ev_r_ireturn (pc := 17) (x := 0) (v := Int32.ofInt 0) (ty := .boolean) (by decide : ev_bl 0) (by decide +kernel) (by decide +kernel) (ev_ret_bl (by decide : ev_bl 0)) rfl
    · intro c2
      refine ev_r_iconst (pc := 12) (k := 1) (by decide +kernel) ?_
      refine ev_r_goto (pc := 13) (o := 4) (t := 17) (by decide +kernel) (by decide +kernel) ?_
      exact ev_r_ireturn (pc := 17) (x := 1) (v := Int32.ofInt 1) (ty := .boolean) (by decide : ev_bl 1) (by decide +kernel) (by decide +kernel) (ev_ret_bl (by decide : ev_bl 1)) rfl
/-- MendBench$Pattern.isLook(I)Z -/
def jm_63 (Q : Nat) (a0 : Int) (S : ev_St) : Option ((Int) × ev_St) := if a0 < 20 then (some (0, S)) else (some (1, S))
theorem jt_63 (d : Nat) (hd : 1 ≤ d) (Q : Nat) (a0 : Int) (ha0 : ev_rng a0) (S : ev_St) (x : Int) (S' : ev_St) (hJ : jm_63 Q a0 S = some (x, S')) : ev_Ref d 63 [.int (Int32.ofInt a0)] S (ev_eI x) S' (ev_bl x) := by
  obtain ⟨d, rfl⟩ : ∃ e, d = e + 1 := ⟨d - 1, by omega⟩
  refine ev_ref_of (P := ev_bl) (lv := [(0, .int (Int32.ofInt a0))]) (by decide +kernel) (by (try simp only [ev_sum, ev_nv_cat]); first | done | rfl) (by (try simp only [lv_args, ev_nv_cat]); first | done | rfl) ?_ x S' hJ
  unfold jm_63
  refine ev_r_iload_n (pc := 0) (k := 0) (v := Int32.ofInt a0) (by decide +kernel) (by rfl) ?_
  refine ev_r_bipush (pc := 1) (k := 20) (by decide +kernel) (by decide +kernel) ?_
  refine ev_r_icmp (pc := 3) (q := .lt) (o := 7) (t := 10) (c := a0 < 20) (by decide +kernel) (ev_k_lt ha0 (by decide)) (by decide +kernel) ?_ ?_
  · intro c1
    refine ev_r_iconst (pc := 10) (k := 0) (by decide +kernel) ?_
    exact ev_r_ireturn (pc := 11) (x := 0) (v := Int32.ofInt 0) (ty := .boolean) (by decide : ev_bl 0) (by decide +kernel) (by decide +kernel) (ev_ret_bl (by decide : ev_bl 0)) rfl
  · intro c1
    refine ev_r_iconst (pc := 6) (k := 1) (by decide +kernel) ?_
    refine ev_r_goto (pc := 7) (o := 4) (t := 11) (by decide +kernel) (by decide +kernel) ?_
    exact ev_r_ireturn (pc := 11) (x := 1) (v := Int32.ofInt 1) (ty := .boolean) (by decide : ev_bl 1) (by decide +kernel) (by decide +kernel) (ev_ret_bl (by decide : ev_bl 1)) rfl
def jb_34_43 (Q : Nat) (a0 : Int) (x7 : Int)  (K43 : Int → Int → Int → Int → Int → ev_St → Option ((Unit) × ev_St)) (x20 : Int) (x21 : Int) (x22 : Int) (x23 : Int) (x24 : Int) (s34 : ev_St) : Option ((Unit) × ev_St) := ev_jn (fun  (s42 : ev_St) => ev_bd (jm_63 Q x7 s42) fun x44 s43 => ev_jn (fun (x45 : Int) (s51 : ev_St) => ev_jn (fun (x54 : Int) (x53 : Int) (r52 : Nat) (s59 : ev_St) => ev_if ((0 : Int) ≤ x53 ∧ x53 < (ev_aln r52 : Int)) (ev_b (ev_pI s59 r52 (Int.toNat x53) x54) fun s60 => ev_b (ev_imin 1000000 x23) fun x61 => ev_if ((0 : Int) ≤ a0 ∧ a0 < (ev_aln 223 : Int)) (ev_b (ev_pI s60 223 (Int.toNat a0) x61) fun s62 => some ((), s62)))) fun K228 => if x45 = 0 then (K228 x22 a0 222 s51) else (K228 0 a0 222 s51)) fun K210 => ev_jn (fun  (s69 : ev_St) => K210 1 s69) fun K205 => if x44 ≠ 0 then (K205  s43) else (ev_jn (fun  (s76 : ev_St) => K210 0 s76) fun K209 => if x7 ≠ 8 then (K209  s43) else (if 2 ≤ x21 then (K209  s43) else (K205  s43)))) fun K186 => if 400 ≤ x24 then (K186  s34) else (ev_b (s34.2.2.1 221 9) fun r80 => ev_if (r80 ≠ 0) (ev_bd (jm_59 Q ((r80 - 1)) x20 s34) fun x83 s82 => if x83 = 0 then (K186  s82) else (ev_ck (x21 + 1) fun x85 => ev_if ((0 : Int) ≤ x20 ∧ x20 < (ev_aln 222 : Int)) (ev_b (s82.1 222 (Int.toNat x20)) fun x86 => ev_b (ev_imin x22 x86) fun x87 => ev_if ((0 : Int) ≤ x20 ∧ x20 < (ev_aln 223 : Int)) (ev_b (s82.1 223 (Int.toNat x20)) fun x88 => ev_jn (fun (x89 : Int) (x90 : Int) (x93 : Int) (x92 : Int) (x91 : Int) (s102 : ev_St) => ev_ck (x92 + x93) fun x103 => ev_ck (x91 + x103) fun x104 => ev_bd (jm_63 Q x7 s102) fun x106 s105 => ev_jn (fun (x107 : Int) (s117 : ev_St) => ev_jn (fun  (s127 : ev_St) => ev_b (s127.2.2.1 221 9) fun r128 => ev_if (r128 ≠ 0) (ev_if ((0 : Int) ≤ x20 ∧ x20 < (ev_aln (((r128 - 1) + 5)) : Int)) (ev_b (s127.1 (((r128 - 1) + 5)) (Int.toNat x20)) fun x130 => ev_ck (x24 + 1) fun x131 => K43 x130 x89 x90 x107 x131 s127))) fun K170 => if 19 ≤ x7 then (K170  s117) else (ev_bd (jm_37 Q ((226 + 1)) a0 ((226 + 1)) x20 s117) fun _ s133 => ev_bd (jm_37 Q ((227 + 1)) a0 ((227 + 1)) x20 s133) fun _ s134 => K170  s134)) fun K136 => if x106 ≠ 0 then (K136 x104 s105) else (ev_bd (jm_37 Q ((224 + 1)) a0 ((224 + 1)) x20 s105) fun _ s136 => ev_bd (jm_37 Q ((225 + 1)) a0 ((225 + 1)) x20 s136) fun _ s137 => K136 x104 s137)) fun K97 => if x85 ≤ 1 then (K97 x85 x87 0 x88 x23 s82) else (K97 x85 x87 2 x88 x23 s82))))))
def jl_34_43 (Q : Nat) (a0 : Int) (x7 : Int)  : Nat → Int → Int → Int → Int → Int → ev_St → Option ((Unit) × ev_St)
  | 0 => fun _ _ _ _ _ _ => none
  | q + 1 => jb_34_43 Q a0 x7  (jl_34_43 Q a0 x7  q)
theorem jbt_34_43 (d : Nat) (hd : 2 ≤ d + 1) (Q : Nat) (a0 : Int) (x7 : Int) (ha0 : ev_rng a0) (hx7 : ev_rng x7)   (K43 : Int → Int → Int → Int → Int → ev_St → Option ((Unit) × ev_St)) (hK43 : ∀ (x20 : Int) (hx20 : ev_rng x20), ∀ (x21 : Int) (hx21 : ev_rng x21), ∀ (x22 : Int) (hx22 : ev_rng x22), ∀ (x23 : Int) (hx23 : ev_rng x23), ∀ (x24 : Int) (hx24 : ev_rng x24), ∀ (s34 : ev_St) (w25 : List (Nat × Value)), ev_lk w25 0 = some (.ref 221) → ev_lk w25 1 = some (.int (Int32.ofInt a0)) → ev_lk w25 2 = some (.int (Int32.ofInt x7)) → ev_lk w25 3 = some (.int (Int32.ofInt x20)) → ev_lk w25 4 = some (.int (Int32.ofInt x21)) → ev_lk w25 5 = some (.int (Int32.ofInt x22)) → ev_lk w25 6 = some (.int (Int32.ofInt x23)) → ev_lk w25 7 = some (.int (Int32.ofInt x24)) → ev_w none (ev_Mof 34) d 43 w25 [] s34 (K43 x20 x21 x22 x23 x24 s34) ev_eU ev_PU) : ∀ (x20 : Int) (hx20 : ev_rng x20), ∀ (x21 : Int) (hx21 : ev_rng x21), ∀ (x22 : Int) (hx22 : ev_rng x22), ∀ (x23 : Int) (hx23 : ev_rng x23), ∀ (x24 : Int) (hx24 : ev_rng x24), ∀ (s34 : ev_St) (w25 : List (Nat × Value)), ev_lk w25 0 = some (.ref 221) → ev_lk w25 1 = some (.int (Int32.ofInt a0)) → ev_lk w25 2 = some (.int (Int32.ofInt x7)) → ev_lk w25 3 = some (.int (Int32.ofInt x20)) → ev_lk w25 4 = some (.int (Int32.ofInt x21)) → ev_lk w25 5 = some (.int (Int32.ofInt x22)) → ev_lk w25 6 = some (.int (Int32.ofInt x23)) → ev_lk w25 7 = some (.int (Int32.ofInt x24)) → ev_w none (ev_Mof 34) d 43 w25 [] s34 (jb_34_43 Q a0 x7  K43 x20 x21 x22 x23 x24 s34) ev_eU ev_PU := by
  intro x20 hx20 x21 hx21 x22 hx22 x23 hx23 x24 hx24 s34 w25 e26 e27 e28 e29 e30 e31 e32 e33
  unfold jb_34_43
  refine ev_r_iload (pc := 43) (k := 7) (v := Int32.ofInt x24) (by decide +kernel) (by exact e33) ?_
  refine ev_r_sipush (pc := 45) (k := 400) (by decide +kernel) (by decide +kernel) ?_
  refine ev_r_jn (Q := fun K => ∀ (s42 : ev_St) (w35 : List (Nat × Value)), ev_lk w35 0 = some (.ref 221) → ev_lk w35 1 = some (.int (Int32.ofInt a0)) → ev_lk w35 2 = some (.int (Int32.ofInt x7)) → ev_lk w35 4 = some (.int (Int32.ofInt x21)) → ev_lk w35 5 = some (.int (Int32.ofInt x22)) → ev_lk w35 6 = some (.int (Int32.ofInt x23)) → ev_w none (ev_Mof 34) d 186 w35 [] s42 (K  s42) ev_eU ev_PU) ?_ ?_
  · intro  s42 w35 e36 e37 e38 e39 e40 e41
    refine ev_r_iload_n (pc := 186) (k := 2) (v := Int32.ofInt x7) (by decide +kernel) (by exact e38) ?_
    refine ev_r_stat (pc := 187) (y := 177) (kind := 2) (mi := 63) (na := 1) (as := [.int (Int32.ofInt x7)]) (rest := []) (encc := ev_oI) (Q := ev_bl) (fun x S1 h => jt_63 d (by omega) Q x7 hx7 s42 x S1 h) (Or.inl rfl) (by decide +kernel) (by decide +kernel) (by decide +kernel) (by decide +kernel) rfl (by (try simp only [ev_sum, ev_nv_cat]); first | done | rfl) ?_
    intro x44 s43 hx44
    replace hx44 := ev_bl_rng hx44
    show ev_w _ _ _ _ _ [.int (Int32.ofInt x44)] _ _ _ _
    refine ev_r_jn (Q := fun K => ∀ (x45 : Int) (hx45 : ev_rng x45), ∀ (s51 : ev_St) (w46 : List (Nat × Value)), ev_lk w46 0 = some (.ref 221) → ev_lk w46 1 = some (.int (Int32.ofInt a0)) → ev_lk w46 5 = some (.int (Int32.ofInt x22)) → ev_lk w46 6 = some (.int (Int32.ofInt x23)) → ev_w none (ev_Mof 34) d 210 w46 [.int (Int32.ofInt x45)] s51 (K x45 s51) ev_eU ev_PU) ?_ ?_
    · intro x45 hx45 s51 w46 e47 e48 e49 e50
      refine ev_r_istore (pc := 210) (k := 7) (by decide +kernel) (by decide +kernel) rfl ?_
      refine ev_r_aload_n (pc := 212) (k := 0) (v := .ref 221) trivial (by decide +kernel) (by exact (ev_l1 e47 (by decide) (by decide))) ?_
      refine ev_r_getC (pc := 213) (y := 11) (ci := 2) (f := 0) (fin := 1) (k' := 222) (by decide +kernel) (by decide +kernel) (by exact ev_ob_221) rfl rfl ?_
      refine ev_r_iload_n (pc := 216) (k := 1) (v := Int32.ofInt a0) (by decide +kernel) (by exact (ev_l1 e48 (by decide) (by decide))) ?_
      refine ev_r_iload (pc := 217) (k := 7) (v := Int32.ofInt x45) (by decide +kernel) (by exact ev_lk_st1_self) ?_
      refine ev_r_jn (Q := fun K => ∀ (x54 : Int) (hx54 : ev_rng x54), ∀ (x53 : Int) (hx53 : ev_rng x53), ∀ (r52 : Nat) (hr52 : ev_isAb r52 1 .int = true), ∀ (s59 : ev_St) (w55 : List (Nat × Value)), ev_lk w55 0 = some (.ref 221) → ev_lk w55 1 = some (.int (Int32.ofInt a0)) → ev_lk w55 6 = some (.int (Int32.ofInt x23)) → ev_w none (ev_Mof 34) d 228 w55 [.int (Int32.ofInt x54), .int (Int32.ofInt x53), .ref r52] s59 (K x54 x53 r52 s59) ev_eU ev_PU) ?_ ?_
      · intro x54 hx54 x53 hx53 r52 hr52 s59 w55 e56 e57 e58
        refine ev_r_iast (pc := 228) hx54 hx53 (by decide +kernel) (by exact hr52) ?_
        intro s60
        refine ev_r_aload_n (pc := 229) (k := 0) (v := .ref 221) trivial (by decide +kernel) (by exact e56) ?_
        refine ev_r_getC (pc := 230) (y := 17) (ci := 2) (f := 1) (fin := 1) (k' := 223) (by decide +kernel) (by decide +kernel) (by exact ev_ob_221) rfl rfl ?_
        refine ev_r_iload_n (pc := 233) (k := 1) (v := Int32.ofInt a0) (by decide +kernel) (by exact e57) ?_
        refine ev_r_ldc (pc := 234) (y := 163) (k := 1000000) (by decide +kernel) (by decide +kernel) ?_
        refine ev_r_iload (pc := 236) (k := 6) (v := Int32.ofInt x23) (by decide +kernel) (by exact e58) ?_
        refine ev_r_mm1 (pc := 238) (y := 164) (kd := 9) (Or.inl rfl) (by decide +kernel) (by decide +kernel) (by (try simp only [ev_sum, ev_nv_cat]); first | done | rfl) ?_
        intro x61 hx61
        refine ev_r_iast (pc := 241) hx61 ha0 (by decide +kernel) (by exact ev_ab_223) ?_
        intro s62
        exact ev_r_return (pc := 242) (x := ()) trivial (by decide +kernel) (by decide +kernel) rfl
      · intro K228 hK228
        refine ev_r_if (pc := 219) (q := .eq) (o := 7) (t := 226) (c := x45 = 0) (by decide +kernel) (ev_k_eq hx45 ev_rng0) (by decide +kernel) ?_ ?_
        · intro c63
          refine ev_r_iload (pc := 226) (k := 5) (v := Int32.ofInt x22) (by decide +kernel) (by exact (ev_l1 e49 (by decide) (by decide))) ?_
          exact hK228 x22 hx22 a0 ha0 222 ev_ab_222 s51 _ (by exact (ev_l1 e47 (by decide) (by decide))) (by exact (ev_l1 e48 (by decide) (by decide))) (by exact (ev_lk_st1 e50 (by decide) rfl))
        · intro c63
          refine ev_r_iconst (pc := 222) (k := 0) (by decide +kernel) ?_
          refine ev_r_goto (pc := 223) (o := 5) (t := 228) (by decide +kernel) (by decide +kernel) ?_
          exact hK228 0 (by decide) a0 ha0 222 ev_ab_222 s51 _ (by exact (ev_l1 e47 (by decide) (by decide))) (by exact (ev_l1 e48 (by decide) (by decide))) (by exact (ev_lk_st1 e50 (by decide) rfl))
    · intro K210 hK210
      refine ev_r_jn (Q := fun K => ∀ (s69 : ev_St) (w64 : List (Nat × Value)), ev_lk w64 0 = some (.ref 221) → ev_lk w64 1 = some (.int (Int32.ofInt a0)) → ev_lk w64 5 = some (.int (Int32.ofInt x22)) → ev_lk w64 6 = some (.int (Int32.ofInt x23)) → ev_w none (ev_Mof 34) d 205 w64 [] s69 (K  s69) ev_eU ev_PU) ?_ ?_
      · intro  s69 w64 e65 e66 e67 e68
        refine ev_r_iconst (pc := 205) (k := 1) (by decide +kernel) ?_
        refine ev_r_goto (pc := 206) (o := 4) (t := 210) (by decide +kernel) (by decide +kernel) ?_
        exact hK210 1 (by decide) s69 _ (by exact e65) (by exact e66) (by exact e67) (by exact e68)
      · intro K205 hK205
        refine ev_r_if (pc := 190) (q := .ne) (o := 15) (t := 205) (c := x44 ≠ 0) (by decide +kernel) (ev_k_ne hx44 ev_rng0) (by decide +kernel) ?_ ?_
        · intro c70
          exact hK205  s43 _ (by exact e36) (by exact e37) (by exact e40) (by exact e41)
        · intro c70
          refine ev_r_iload_n (pc := 193) (k := 2) (v := Int32.ofInt x7) (by decide +kernel) (by exact e38) ?_
          refine ev_r_bipush (pc := 194) (k := 8) (by decide +kernel) (by decide +kernel) ?_
          refine ev_r_jn (Q := fun K => ∀ (s76 : ev_St) (w71 : List (Nat × Value)), ev_lk w71 0 = some (.ref 221) → ev_lk w71 1 = some (.int (Int32.ofInt a0)) → ev_lk w71 5 = some (.int (Int32.ofInt x22)) → ev_lk w71 6 = some (.int (Int32.ofInt x23)) → ev_w none (ev_Mof 34) d 209 w71 [] s76 (K  s76) ev_eU ev_PU) ?_ ?_
          · intro  s76 w71 e72 e73 e74 e75
            refine ev_r_iconst (pc := 209) (k := 0) (by decide +kernel) ?_
            exact hK210 0 (by decide) s76 _ (by exact e72) (by exact e73) (by exact e74) (by exact e75)
          · intro K209 hK209
            refine ev_r_icmp (pc := 196) (q := .ne) (o := 13) (t := 209) (c := x7 ≠ 8) (by decide +kernel) (ev_k_ne hx7 (by decide)) (by decide +kernel) ?_ ?_
            · intro c77
              exact hK209  s43 _ (by exact e36) (by exact e37) (by exact e40) (by exact e41)
            · intro c77
              refine ev_r_iload (pc := 199) (k := 4) (v := Int32.ofInt x21) (by decide +kernel) (by exact e39) ?_
              refine ev_r_iconst (pc := 201) (k := 2) (by decide +kernel) ?_
              refine ev_r_icmp (pc := 202) (q := .ge) (o := 7) (t := 209) (c := 2 ≤ x21) (by decide +kernel) (ev_k_ge hx21 (by decide)) (by decide +kernel) ?_ ?_
              · intro c78
                exact hK209  s43 _ (by exact e36) (by exact e37) (by exact e40) (by exact e41)
              · intro c78
                exact hK205  s43 _ (by exact e36) (by exact e37) (by exact e40) (by exact e41)
  · intro K186 hK186
    refine ev_r_icmp (pc := 48) (q := .ge) (o := 138) (t := 186) (c := 400 ≤ x24) (by decide +kernel) (ev_k_ge hx24 (by decide)) (by decide +kernel) ?_ ?_
    · intro c79
      exact hK186  s34 _ (by exact e26) (by exact e27) (by exact e28) (by exact e30) (by exact e31) (by exact e32)
    · intro c79
      refine ev_r_aload_n (pc := 51) (k := 0) (v := .ref 221) trivial (by decide +kernel) (by exact e26) ?_
      refine ev_r_getR (pc := 52) (y := 47) (ci := 2) (f := 9) (fin := 0) (t := 5) (by decide +kernel) (by decide +kernel) (by exact ev_ob_221) rfl rfl ?_
      intro r80 hr80
      have hr80 : r80 = 0 ∨ ev_isOb (r80 - 1) 5 = true := hr80
      refine ev_r_iload_n (pc := 55) (k := 3) (v := Int32.ofInt x20) (by decide +kernel) (by exact e29) ?_
      refine ev_r_chk ?_
      intro c81
      refine ev_r_dr (r := r80) (fun v => [.int (Int32.ofInt x20), v]) c81 ?_
      refine ev_r_virt (pc := 56) (y := 63) (mi := 59) (na := 1) (k := (r80 - 1)) (as := [.int (Int32.ofInt x20)]) (rest := []) (encc := ev_oI) (Q := ev_bl) (fun x S1 h => jt_59 d (by omega) Q ((r80 - 1)) x20 (hr80.resolve_left c81) hx20 s34 x S1 h) (by exact (hr80.resolve_left c81)) (by decide +kernel) (by decide +kernel) (by decide +kernel) (by decide +kernel) rfl (by (try simp only [ev_sum, ev_nv_cat]); first | done | rfl) ?_
      intro x83 s82 hx83
      replace hx83 := ev_bl_rng hx83
      show ev_w _ _ _ _ _ [.int (Int32.ofInt x83)] _ _ _ _
      refine ev_r_if (pc := 59) (q := .eq) (o := 127) (t := 186) (c := x83 = 0) (by decide +kernel) (ev_k_eq hx83 ev_rng0) (by decide +kernel) ?_ ?_
      · intro c84
        exact hK186  s82 _ (by exact e26) (by exact e27) (by exact e28) (by exact e30) (by exact e31) (by exact e32)
      · intro c84
        refine ev_r_iinc (pc := 62) (k := 4) (c := 1) (x := x21) (by decide +kernel) (by decide +kernel) (by exact e30) (fun _ => rfl) ?_
        intro x85 hx85
        refine ev_r_iload (pc := 65) (k := 5) (v := Int32.ofInt x22) (by decide +kernel) (by exact (ev_l1 e31 (by decide) (by decide))) ?_
        refine ev_r_aload_n (pc := 67) (k := 0) (v := .ref 221) trivial (by decide +kernel) (by exact (ev_l1 e26 (by decide) (by decide))) ?_
        refine ev_r_getC (pc := 68) (y := 11) (ci := 2) (f := 0) (fin := 1) (k' := 222) (by decide +kernel) (by decide +kernel) (by exact ev_ob_221) rfl rfl ?_
        refine ev_r_iload_n (pc := 71) (k := 3) (v := Int32.ofInt x20) (by decide +kernel) (by exact (ev_lk_st1 e29 (by decide) rfl)) ?_
        refine ev_r_iald (pc := 72) hx20 (by decide +kernel) (by exact ev_ab_222) ?_
        intro x86 hx86
        refine ev_r_mm1 (pc := 73) (y := 164) (kd := 9) (Or.inl rfl) (by decide +kernel) (by decide +kernel) (by (try simp only [ev_sum, ev_nv_cat]); first | done | rfl) ?_
        intro x87 hx87
        refine ev_r_istore (pc := 76) (k := 5) (by decide +kernel) (by decide +kernel) rfl ?_
        refine ev_r_iload (pc := 78) (k := 6) (v := Int32.ofInt x23) (by decide +kernel) (by exact (ev_l1 (ev_l1 e32 (by decide) (by decide)) (by decide) (by decide))) ?_
        refine ev_r_aload_n (pc := 80) (k := 0) (v := .ref 221) trivial (by decide +kernel) (by exact (ev_l1 (ev_l1 e26 (by decide) (by decide)) (by decide) (by decide))) ?_
        refine ev_r_getC (pc := 81) (y := 17) (ci := 2) (f := 1) (fin := 1) (k' := 223) (by decide +kernel) (by decide +kernel) (by exact ev_ob_221) rfl rfl ?_
        refine ev_r_iload_n (pc := 84) (k := 3) (v := Int32.ofInt x20) (by decide +kernel) (by exact (ev_l1 (ev_lk_st1 e29 (by decide) rfl) (by decide) (by decide))) ?_
        refine ev_r_iald (pc := 85) hx20 (by decide +kernel) (by exact ev_ab_223) ?_
        intro x88 hx88
        refine ev_r_iload (pc := 86) (k := 4) (v := Int32.ofInt x85) (by decide +kernel) (by exact (ev_lk_st1 ev_lk_st1_self (by decide) rfl)) ?_
        refine ev_r_iconst (pc := 88) (k := 1) (by decide +kernel) ?_
        refine ev_r_jn (Q := fun K => ∀ (x89 : Int) (hx89 : ev_rng x89), ∀ (x90 : Int) (hx90 : ev_rng x90), ∀ (x93 : Int) (hx93 : ev_rng x93), ∀ (x92 : Int) (hx92 : ev_rng x92), ∀ (x91 : Int) (hx91 : ev_rng x91), ∀ (s102 : ev_St) (w94 : List (Nat × Value)), ev_lk w94 0 = some (.ref 221) → ev_lk w94 1 = some (.int (Int32.ofInt a0)) → ev_lk w94 2 = some (.int (Int32.ofInt x7)) → ev_lk w94 3 = some (.int (Int32.ofInt x20)) → ev_lk w94 4 = some (.int (Int32.ofInt x89)) → ev_lk w94 5 = some (.int (Int32.ofInt x90)) → ev_lk w94 7 = some (.int (Int32.ofInt x24)) → ev_w none (ev_Mof 34) d 97 w94 [.int (Int32.ofInt x93), .int (Int32.ofInt x92), .int (Int32.ofInt x91)] s102 (K x89 x90 x93 x92 x91 s102) ev_eU ev_PU) ?_ ?_
        · intro x89 hx89 x90 hx90 x93 hx93 x92 hx92 x91 hx91 s102 w94 e95 e96 e97 e98 e99 e100 e101
          refine ev_r_iadd (pc := 97) (by decide +kernel) ?_
          intro x103 hx103
          refine ev_r_iadd (pc := 98) (by decide +kernel) ?_
          intro x104 hx104
          refine ev_r_istore (pc := 99) (k := 6) (by decide +kernel) (by decide +kernel) rfl ?_
          refine ev_r_iload_n (pc := 101) (k := 2) (v := Int32.ofInt x7) (by decide +kernel) (by exact (ev_l1 e97 (by decide) (by decide))) ?_
          refine ev_r_stat (pc := 102) (y := 177) (kind := 2) (mi := 63) (na := 1) (as := [.int (Int32.ofInt x7)]) (rest := []) (encc := ev_oI) (Q := ev_bl) (fun x S1 h => jt_63 d (by omega) Q x7 hx7 s102 x S1 h) (Or.inl rfl) (by decide +kernel) (by decide +kernel) (by decide +kernel) (by decide +kernel) rfl (by (try simp only [ev_sum, ev_nv_cat]); first | done | rfl) ?_
          intro x106 s105 hx106
          replace hx106 := ev_bl_rng hx106
          show ev_w _ _ _ _ _ [.int (Int32.ofInt x106)] _ _ _ _
          refine ev_r_jn (Q := fun K => ∀ (x107 : Int) (hx107 : ev_rng x107), ∀ (s117 : ev_St) (w108 : List (Nat × Value)), ev_lk w108 0 = some (.ref 221) → ev_lk w108 1 = some (.int (Int32.ofInt a0)) → ev_lk w108 2 = some (.int (Int32.ofInt x7)) → ev_lk w108 3 = some (.int (Int32.ofInt x20)) → ev_lk w108 4 = some (.int (Int32.ofInt x89)) → ev_lk w108 5 = some (.int (Int32.ofInt x90)) → ev_lk w108 6 = some (.int (Int32.ofInt x107)) → ev_lk w108 7 = some (.int (Int32.ofInt x24)) → ev_w none (ev_Mof 34) d 136 w108 [] s117 (K x107 s117) ev_eU ev_PU) ?_ ?_
          · intro x107 hx107 s117 w108 e109 e110 e111 e112 e113 e114 e115 e116
            refine ev_r_iload_n (pc := 136) (k := 2) (v := Int32.ofInt x7) (by decide +kernel) (by exact e111) ?_
            refine ev_r_bipush (pc := 137) (k := 19) (by decide +kernel) (by decide +kernel) ?_
            refine ev_r_jn (Q := fun K => ∀ (s127 : ev_St) (w118 : List (Nat × Value)), ev_lk w118 0 = some (.ref 221) → ev_lk w118 1 = some (.int (Int32.ofInt a0)) → ev_lk w118 2 = some (.int (Int32.ofInt x7)) → ev_lk w118 3 = some (.int (Int32.ofInt x20)) → ev_lk w118 4 = some (.int (Int32.ofInt x89)) → ev_lk w118 5 = some (.int (Int32.ofInt x90)) → ev_lk w118 6 = some (.int (Int32.ofInt x107)) → ev_lk w118 7 = some (.int (Int32.ofInt x24)) → ev_w none (ev_Mof 34) d 170 w118 [] s127 (K  s127) ev_eU ev_PU) ?_ ?_
            · intro  s127 w118 e119 e120 e121 e122 e123 e124 e125 e126
              refine ev_r_aload_n (pc := 170) (k := 0) (v := .ref 221) trivial (by decide +kernel) (by exact e119) ?_
              refine ev_r_getR (pc := 171) (y := 47) (ci := 2) (f := 9) (fin := 0) (t := 5) (by decide +kernel) (by decide +kernel) (by exact ev_ob_221) rfl rfl ?_
              intro r128 hr128
              have hr128 : r128 = 0 ∨ ev_isOb (r128 - 1) 5 = true := hr128
              refine ev_r_chk ?_
              intro c129
              refine ev_r_dr (r := r128) (fun v => [v]) c129 ?_
              refine ev_r_getC (pc := 174) (y := 174) (ci := 5) (f := 4) (fin := 2) (k' := ((r128 - 1) + 5)) (by decide +kernel) (by decide +kernel) (by exact (hr128.resolve_left c129)) rfl rfl ?_
              refine ev_r_iload_n (pc := 177) (k := 3) (v := Int32.ofInt x20) (by decide +kernel) (by exact e122) ?_
              refine ev_r_iald (pc := 178) hx20 (by decide +kernel) (by exact (ev_fo_5_4 (hr128.resolve_left c129))) ?_
              intro x130 hx130
              refine ev_r_istore_n (pc := 179) (k := 3) (by decide +kernel) (by decide +kernel) rfl ?_
              refine ev_r_iinc (pc := 180) (k := 7) (c := 1) (x := x24) (by decide +kernel) (by decide +kernel) (by exact (ev_l1 e126 (by decide) (by decide))) (fun _ => rfl) ?_
              intro x131 hx131
              refine ev_r_goto (pc := 183) (o := (-140)) (t := 43) (by decide +kernel) (by decide +kernel) ?_
              exact hK43 x130 hx130 x89 hx89 x90 hx90 x107 hx107 x131 hx131 s127 _ (by exact (ev_l1 (ev_l1 e119 (by decide) (by decide)) (by decide) (by decide))) (by exact (ev_l1 (ev_l1 e120 (by decide) (by decide)) (by decide) (by decide))) (by exact (ev_l1 (ev_lk_st1 e121 (by decide) rfl) (by decide) (by decide))) (by exact (ev_l1 ev_lk_st1_self (by decide) (by decide))) (by exact (ev_l1 (ev_l1 e123 (by decide) (by decide)) (by decide) (by decide))) (by exact (ev_l1 (ev_l1 e124 (by decide) (by decide)) (by decide) (by decide))) (by exact (ev_lk_st1 (ev_l1 e125 (by decide) (by decide)) (by decide) rfl)) (by exact ev_lk_st1_self)
            · intro K170 hK170
              refine ev_r_icmp (pc := 139) (q := .ge) (o := 31) (t := 170) (c := 19 ≤ x7) (by decide +kernel) (ev_k_ge hx7 (by decide)) (by decide +kernel) ?_ ?_
              · intro c132
                exact hK170  s117 _ (by exact e109) (by exact e110) (by exact e111) (by exact e112) (by exact e113) (by exact e114) (by exact e115) (by exact e116)
              · intro c132
                refine ev_r_aload_n (pc := 142) (k := 0) (v := .ref 221) trivial (by decide +kernel) (by exact e109) ?_
                refine ev_r_aload_n (pc := 143) (k := 0) (v := .ref 221) trivial (by decide +kernel) (by exact e109) ?_
                refine ev_r_getC (pc := 144) (y := 27) (ci := 2) (f := 4) (fin := 1) (k' := 226) (by decide +kernel) (by decide +kernel) (by exact ev_ob_221) rfl rfl ?_
                refine ev_r_iload_n (pc := 147) (k := 1) (v := Int32.ofInt a0) (by decide +kernel) (by exact e110) ?_
                refine ev_r_aload_n (pc := 148) (k := 0) (v := .ref 221) trivial (by decide +kernel) (by exact e109) ?_
                refine ev_r_getC (pc := 149) (y := 27) (ci := 2) (f := 4) (fin := 1) (k' := 226) (by decide +kernel) (by decide +kernel) (by exact ev_ob_221) rfl rfl ?_
                refine ev_r_iload_n (pc := 152) (k := 3) (v := Int32.ofInt x20) (by decide +kernel) (by exact e112) ?_
                refine ev_r_virt (pc := 153) (y := 170) (mi := 37) (na := 4) (k := 221) (as := [ev_nv ((226 + 1)), .int (Int32.ofInt a0), ev_nv ((226 + 1)), .int (Int32.ofInt x20)]) (rest := []) (encc := ev_oU) (Q := ev_PU) (fun x S1 h => jt_37 d (by omega) Q ((226 + 1)) a0 ((226 + 1)) x20 (by exact (Or.inr ev_ab_226)) ha0 (by exact (Or.inr ev_ab_226)) hx20 s117 x S1 h) (by exact ev_ob_221) (by decide +kernel) (by decide +kernel) (by decide +kernel) (by decide +kernel) rfl (by (try simp only [ev_sum, ev_nv_cat]); first | done | rfl) ?_
                intro _ s133 _
                show ev_w _ _ _ _ _ [] _ _ _ _
                refine ev_r_aload_n (pc := 156) (k := 0) (v := .ref 221) trivial (by decide +kernel) (by exact e109) ?_
                refine ev_r_aload_n (pc := 157) (k := 0) (v := .ref 221) trivial (by decide +kernel) (by exact e109) ?_
                refine ev_r_getC (pc := 158) (y := 30) (ci := 2) (f := 5) (fin := 1) (k' := 227) (by decide +kernel) (by decide +kernel) (by exact ev_ob_221) rfl rfl ?_
                refine ev_r_iload_n (pc := 161) (k := 1) (v := Int32.ofInt a0) (by decide +kernel) (by exact e110) ?_
                refine ev_r_aload_n (pc := 162) (k := 0) (v := .ref 221) trivial (by decide +kernel) (by exact e109) ?_
                refine ev_r_getC (pc := 163) (y := 30) (ci := 2) (f := 5) (fin := 1) (k' := 227) (by decide +kernel) (by decide +kernel) (by exact ev_ob_221) rfl rfl ?_
                refine ev_r_iload_n (pc := 166) (k := 3) (v := Int32.ofInt x20) (by decide +kernel) (by exact e112) ?_
                refine ev_r_virt (pc := 167) (y := 170) (mi := 37) (na := 4) (k := 221) (as := [ev_nv ((227 + 1)), .int (Int32.ofInt a0), ev_nv ((227 + 1)), .int (Int32.ofInt x20)]) (rest := []) (encc := ev_oU) (Q := ev_PU) (fun x S1 h => jt_37 d (by omega) Q ((227 + 1)) a0 ((227 + 1)) x20 (by exact (Or.inr ev_ab_227)) ha0 (by exact (Or.inr ev_ab_227)) hx20 s133 x S1 h) (by exact ev_ob_221) (by decide +kernel) (by decide +kernel) (by decide +kernel) (by decide +kernel) rfl (by (try simp only [ev_sum, ev_nv_cat]); first | done | rfl) ?_
                intro _ s134 _
                show ev_w _ _ _ _ _ [] _ _ _ _
                exact hK170  s134 _ (by exact e109) (by exact e110) (by exact e111) (by exact e112) (by exact e113) (by exact e114) (by exact e115) (by exact e116)
          · intro K136 hK136
            refine ev_r_if (pc := 105) (q := .ne) (o := 31) (t := 136) (c := x106 ≠ 0) (by decide +kernel) (ev_k_ne hx106 ev_rng0) (by decide +kernel) ?_ ?_
            · intro c135
              exact hK136 x104 hx104 s105 _ (by exact (ev_l1 e95 (by decide) (by decide))) (by exact (ev_l1 e96 (by decide) (by decide))) (by exact (ev_l1 e97 (by decide) (by decide))) (by exact (ev_l1 e98 (by decide) (by decide))) (by exact (ev_l1 e99 (by decide) (by decide))) (by exact (ev_lk_st1 e100 (by decide) rfl)) (by exact ev_lk_st1_self) (by exact (ev_l1 e101 (by decide) (by decide)))
            · intro c135
              refine ev_r_aload_n (pc := 108) (k := 0) (v := .ref 221) trivial (by decide +kernel) (by exact (ev_l1 e95 (by decide) (by decide))) ?_
              refine ev_r_aload_n (pc := 109) (k := 0) (v := .ref 221) trivial (by decide +kernel) (by exact (ev_l1 e95 (by decide) (by decide))) ?_
              refine ev_r_getC (pc := 110) (y := 20) (ci := 2) (f := 2) (fin := 1) (k' := 224) (by decide +kernel) (by decide +kernel) (by exact ev_ob_221) rfl rfl ?_
              refine ev_r_iload_n (pc := 113) (k := 1) (v := Int32.ofInt a0) (by decide +kernel) (by exact (ev_l1 e96 (by decide) (by decide))) ?_
              refine ev_r_aload_n (pc := 114) (k := 0) (v := .ref 221) trivial (by decide +kernel) (by exact (ev_l1 e95 (by decide) (by decide))) ?_
              refine ev_r_getC (pc := 115) (y := 20) (ci := 2) (f := 2) (fin := 1) (k' := 224) (by decide +kernel) (by decide +kernel) (by exact ev_ob_221) rfl rfl ?_
              refine ev_r_iload_n (pc := 118) (k := 3) (v := Int32.ofInt x20) (by decide +kernel) (by exact (ev_l1 e98 (by decide) (by decide))) ?_
              refine ev_r_virt (pc := 119) (y := 170) (mi := 37) (na := 4) (k := 221) (as := [ev_nv ((224 + 1)), .int (Int32.ofInt a0), ev_nv ((224 + 1)), .int (Int32.ofInt x20)]) (rest := []) (encc := ev_oU) (Q := ev_PU) (fun x S1 h => jt_37 d (by omega) Q ((224 + 1)) a0 ((224 + 1)) x20 (by exact (Or.inr ev_ab_224)) ha0 (by exact (Or.inr ev_ab_224)) hx20 s105 x S1 h) (by exact ev_ob_221) (by decide +kernel) (by decide +kernel) (by decide +kernel) (by decide +kernel) rfl (by (try simp only [ev_sum, ev_nv_cat]); first | done | rfl) ?_
              intro _ s136 _
              show ev_w _ _ _ _ _ [] _ _ _ _
              refine ev_r_aload_n (pc := 122) (k := 0) (v := .ref 221) trivial (by decide +kernel) (by exact (ev_l1 e95 (by decide) (by decide))) ?_
              refine ev_r_aload_n (pc := 123) (k := 0) (v := .ref 221) trivial (by decide +kernel) (by exact (ev_l1 e95 (by decide) (by decide))) ?_
              refine ev_r_getC (pc := 124) (y := 24) (ci := 2) (f := 3) (fin := 1) (k' := 225) (by decide +kernel) (by decide +kernel) (by exact ev_ob_221) rfl rfl ?_
              refine ev_r_iload_n (pc := 127) (k := 1) (v := Int32.ofInt a0) (by decide +kernel) (by exact (ev_l1 e96 (by decide) (by decide))) ?_
              refine ev_r_aload_n (pc := 128) (k := 0) (v := .ref 221) trivial (by decide +kernel) (by exact (ev_l1 e95 (by decide) (by decide))) ?_
              refine ev_r_getC (pc := 129) (y := 24) (ci := 2) (f := 3) (fin := 1) (k' := 225) (by decide +kernel) (by decide +kernel) (by exact ev_ob_221) rfl rfl ?_
              refine ev_r_iload_n (pc := 132) (k := 3) (v := Int32.ofInt x20) (by decide +kernel) (by exact (ev_l1 e98 (by decide) (by decide))) ?_
              refine ev_r_virt (pc := 133) (y := 170) (mi := 37) (na := 4) (k := 221) (as := [ev_nv ((225 + 1)), .int (Int32.ofInt a0), ev_nv ((225 + 1)), .int (Int32.ofInt x20)]) (rest := []) (encc := ev_oU) (Q := ev_PU) (fun x S1 h => jt_37 d (by omega) Q ((225 + 1)) a0 ((225 + 1)) x20 (by exact (Or.inr ev_ab_225)) ha0 (by exact (Or.inr ev_ab_225)) hx20 s136 x S1 h) (by exact ev_ob_221) (by decide +kernel) (by decide +kernel) (by decide +kernel) (by decide +kernel) rfl (by (try simp only [ev_sum, ev_nv_cat]); first | done | rfl) ?_
              intro _ s137 _
              show ev_w _ _ _ _ _ [] _ _ _ _
              exact hK136 x104 hx104 s137 _ (by exact (ev_l1 e95 (by decide) (by decide))) (by exact (ev_l1 e96 (by decide) (by decide))) (by exact (ev_l1 e97 (by decide) (by decide))) (by exact (ev_l1 e98 (by decide) (by decide))) (by exact (ev_l1 e99 (by decide) (by decide))) (by exact (ev_lk_st1 e100 (by decide) rfl)) (by exact ev_lk_st1_self) (by exact (ev_l1 e101 (by decide) (by decide)))
        · intro K97 hK97
          refine ev_r_icmp (pc := 89) (q := .le) (o := 7) (t := 96) (c := x85 ≤ 1) (by decide +kernel) (ev_k_le hx85 (by decide)) (by decide +kernel) ?_ ?_
          · intro c138
            refine ev_r_iconst (pc := 96) (k := 0) (by decide +kernel) ?_
            exact hK97 x85 hx85 x87 hx87 0 (by decide) x88 hx88 x23 hx23 s82 _ (by exact (ev_l1 (ev_l1 e26 (by decide) (by decide)) (by decide) (by decide))) (by exact (ev_l1 (ev_l1 e27 (by decide) (by decide)) (by decide) (by decide))) (by exact (ev_l1 (ev_l1 e28 (by decide) (by decide)) (by decide) (by decide))) (by exact (ev_l1 (ev_lk_st1 e29 (by decide) rfl) (by decide) (by decide))) (by exact (ev_lk_st1 ev_lk_st1_self (by decide) rfl)) (by exact ev_lk_st1_self) (by exact (ev_l1 (ev_l1 e33 (by decide) (by decide)) (by decide) (by decide)))
          · intro c138
            refine ev_r_iconst (pc := 92) (k := 2) (by decide +kernel) ?_
            refine ev_r_goto (pc := 93) (o := 4) (t := 97) (by decide +kernel) (by decide +kernel) ?_
            exact hK97 x85 hx85 x87 hx87 2 (by decide) x88 hx88 x23 hx23 s82 _ (by exact (ev_l1 (ev_l1 e26 (by decide) (by decide)) (by decide) (by decide))) (by exact (ev_l1 (ev_l1 e27 (by decide) (by decide)) (by decide) (by decide))) (by exact (ev_l1 (ev_l1 e28 (by decide) (by decide)) (by decide) (by decide))) (by exact (ev_l1 (ev_lk_st1 e29 (by decide) rfl) (by decide) (by decide))) (by exact (ev_lk_st1 ev_lk_st1_self (by decide) rfl)) (by exact ev_lk_st1_self) (by exact (ev_l1 (ev_l1 e33 (by decide) (by decide)) (by decide) (by decide)))
theorem jlt_34_43 (d : Nat) (hd : 2 ≤ d + 1) (Q : Nat) (a0 : Int) (x7 : Int) (ha0 : ev_rng a0) (hx7 : ev_rng x7)   : ∀ q : Nat, ∀ (x20 : Int) (hx20 : ev_rng x20), ∀ (x21 : Int) (hx21 : ev_rng x21), ∀ (x22 : Int) (hx22 : ev_rng x22), ∀ (x23 : Int) (hx23 : ev_rng x23), ∀ (x24 : Int) (hx24 : ev_rng x24), ∀ (s34 : ev_St) (w25 : List (Nat × Value)), ev_lk w25 0 = some (.ref 221) → ev_lk w25 1 = some (.int (Int32.ofInt a0)) → ev_lk w25 2 = some (.int (Int32.ofInt x7)) → ev_lk w25 3 = some (.int (Int32.ofInt x20)) → ev_lk w25 4 = some (.int (Int32.ofInt x21)) → ev_lk w25 5 = some (.int (Int32.ofInt x22)) → ev_lk w25 6 = some (.int (Int32.ofInt x23)) → ev_lk w25 7 = some (.int (Int32.ofInt x24)) → ev_w none (ev_Mof 34) d 43 w25 [] s34 (jl_34_43 Q a0 x7  q x20 x21 x22 x23 x24 s34) ev_eU ev_PU := by
  intro q
  induction q with
  | zero =>
    intro x20 hx20 x21 hx21 x22 hx22 x23 hx23 x24 hx24 s34 w25 e26 e27 e28 e29 e30 e31 e32 e33
    exact ev_w_none
  | succ q ih => exact jbt_34_43 d hd Q a0 x7 ha0 hx7   _ ih
/-- MendBench$Facts.learnPart(I)V -/
def jm_34 (Q : Nat) (a0 : Int) (S : ev_St) : Option ((Unit) × ev_St) := ev_b (S.2.2.1 221 9) fun r1 => ev_if (r1 ≠ 0) (ev_if ((0 : Int) ≤ a0 ∧ a0 < (ev_aln (((r1 - 1) + 1)) : Int)) (ev_b (S.1 (((r1 - 1) + 1)) (Int.toNat a0)) fun x3 => ev_b (S.2.2.1 221 9) fun r4 => ev_if (r4 ≠ 0) (ev_if ((0 : Int) ≤ a0 ∧ a0 < (ev_aln (((r4 - 1) + 4)) : Int)) (ev_b (S.1 (((r4 - 1) + 4)) (Int.toNat a0)) fun x6 => ev_jn (fun (x7 : Int) (x8 : Int) (x9 : Int) (x10 : Int) (x11 : Int) (s19 : ev_St) => jl_34_43 Q a0 x7  Q x8 x9 x10 x11 0 s19) fun K38 => if x3 ≠ 18 then (K38 x3 x6 0 1000000 0 S) else (K38 x3 x6 0 1000000 2 S)))))
theorem jt_34 (d : Nat) (hd : 2 ≤ d) (Q : Nat) (a0 : Int) (ha0 : ev_rng a0) (S : ev_St) (x : Unit) (S' : ev_St) (hJ : jm_34 Q a0 S = some (x, S')) : ev_Ref d 34 [.ref 221, .int (Int32.ofInt a0)] S (ev_eU x) S' (ev_PU x) := by
  obtain ⟨d, rfl⟩ : ∃ e, d = e + 1 := ⟨d - 1, by omega⟩
  refine ev_ref_of (P := ev_PU) (lv := [(0, .ref 221), (1, .int (Int32.ofInt a0))]) (by decide +kernel) (by (try simp only [ev_sum, ev_nv_cat]); first | done | rfl) (by (try simp only [lv_args, ev_nv_cat]); first | done | rfl) ?_ x S' hJ
  unfold jm_34
  refine ev_r_aload_n (pc := 0) (k := 0) (v := .ref 221) trivial (by decide +kernel) (by rfl) ?_
  refine ev_r_getR (pc := 1) (y := 47) (ci := 2) (f := 9) (fin := 0) (t := 5) (by decide +kernel) (by decide +kernel) (by exact ev_ob_221) rfl rfl ?_
  intro r1 hr1
  have hr1 : r1 = 0 ∨ ev_isOb (r1 - 1) 5 = true := hr1
  refine ev_r_chk ?_
  intro c2
  refine ev_r_dr (r := r1) (fun v => [v]) c2 ?_
  refine ev_r_getC (pc := 4) (y := 119) (ci := 5) (f := 0) (fin := 2) (k' := ((r1 - 1) + 1)) (by decide +kernel) (by decide +kernel) (by exact (hr1.resolve_left c2)) rfl rfl ?_
  refine ev_r_iload_n (pc := 7) (k := 1) (v := Int32.ofInt a0) (by decide +kernel) (by rfl) ?_
  refine ev_r_iald (pc := 8) ha0 (by decide +kernel) (by exact (ev_fo_5_0 (hr1.resolve_left c2))) ?_
  intro x3 hx3
  refine ev_r_istore_n (pc := 9) (k := 2) (by decide +kernel) (by decide +kernel) rfl ?_
  refine ev_r_aload_n (pc := 10) (k := 0) (v := .ref 221) trivial (by decide +kernel) (by exact (ev_l1 (by rfl) (by decide) (by decide))) ?_
  refine ev_r_getR (pc := 11) (y := 47) (ci := 2) (f := 9) (fin := 0) (t := 5) (by decide +kernel) (by decide +kernel) (by exact ev_ob_221) rfl rfl ?_
  intro r4 hr4
  have hr4 : r4 = 0 ∨ ev_isOb (r4 - 1) 5 = true := hr4
  refine ev_r_chk ?_
  intro c5
  refine ev_r_dr (r := r4) (fun v => [v]) c5 ?_
  refine ev_r_getC (pc := 14) (y := 154) (ci := 5) (f := 3) (fin := 2) (k' := ((r4 - 1) + 4)) (by decide +kernel) (by decide +kernel) (by exact (hr4.resolve_left c5)) rfl rfl ?_
  refine ev_r_iload_n (pc := 17) (k := 1) (v := Int32.ofInt a0) (by decide +kernel) (by exact (ev_lk_st1 (by rfl) (by decide) rfl)) ?_
  refine ev_r_iald (pc := 18) ha0 (by decide +kernel) (by exact (ev_fo_5_3 (hr4.resolve_left c5))) ?_
  intro x6 hx6
  refine ev_r_istore_n (pc := 19) (k := 3) (by decide +kernel) (by decide +kernel) rfl ?_
  refine ev_r_iconst (pc := 20) (k := 0) (by decide +kernel) ?_
  refine ev_r_istore (pc := 21) (k := 4) (by decide +kernel) (by decide +kernel) rfl ?_
  refine ev_r_ldc (pc := 23) (y := 163) (k := 1000000) (by decide +kernel) (by decide +kernel) ?_
  refine ev_r_istore (pc := 25) (k := 5) (by decide +kernel) (by decide +kernel) rfl ?_
  refine ev_r_iload_n (pc := 27) (k := 2) (v := Int32.ofInt x3) (by decide +kernel) (by exact (ev_l1 (ev_l1 (ev_lk_st1 ev_lk_st1_self (by decide) rfl) (by decide) (by decide)) (by decide) (by decide))) ?_
  refine ev_r_bipush (pc := 28) (k := 18) (by decide +kernel) (by decide +kernel) ?_
  refine ev_r_jn (Q := fun K => ∀ (x7 : Int) (hx7 : ev_rng x7), ∀ (x8 : Int) (hx8 : ev_rng x8), ∀ (x9 : Int) (hx9 : ev_rng x9), ∀ (x10 : Int) (hx10 : ev_rng x10), ∀ (x11 : Int) (hx11 : ev_rng x11), ∀ (s19 : ev_St) (w12 : List (Nat × Value)), ev_lk w12 0 = some (.ref 221) → ev_lk w12 1 = some (.int (Int32.ofInt a0)) → ev_lk w12 2 = some (.int (Int32.ofInt x7)) → ev_lk w12 3 = some (.int (Int32.ofInt x8)) → ev_lk w12 4 = some (.int (Int32.ofInt x9)) → ev_lk w12 5 = some (.int (Int32.ofInt x10)) → ev_w none (ev_Mof 34) d 38 w12 [.int (Int32.ofInt x11)] s19 (K x7 x8 x9 x10 x11 s19) ev_eU ev_PU) ?_ ?_
  · intro x7 hx7 x8 hx8 x9 hx9 x10 hx10 x11 hx11 s19 w12 e13 e14 e15 e16 e17 e18
    refine ev_r_istore (pc := 38) (k := 6) (by decide +kernel) (by decide +kernel) rfl ?_
    refine ev_r_iconst (pc := 40) (k := 0) (by decide +kernel) ?_
    refine ev_r_istore (pc := 41) (k := 7) (by decide +kernel) (by decide +kernel) rfl ?_
    exact jlt_34_43 d hd Q a0 x7 ha0 hx7   Q x8 hx8 x9 hx9 x10 hx10 x11 hx11 0 (by decide) s19 _ (by exact (ev_l1 (ev_l1 e13 (by decide) (by decide)) (by decide) (by decide))) (by exact (ev_l1 (ev_l1 e14 (by decide) (by decide)) (by decide) (by decide))) (by exact (ev_l1 (ev_l1 e15 (by decide) (by decide)) (by decide) (by decide))) (by exact (ev_l1 (ev_l1 e16 (by decide) (by decide)) (by decide) (by decide))) (by exact (ev_l1 (ev_l1 e17 (by decide) (by decide)) (by decide) (by decide))) (by exact (ev_l1 (ev_lk_st1 e18 (by decide) rfl) (by decide) (by decide))) (by exact (ev_lk_st1 ev_lk_st1_self (by decide) rfl)) (by exact ev_lk_st1_self)
  · intro K38 hK38
    refine ev_r_icmp (pc := 30) (q := .ne) (o := 7) (t := 37) (c := x3 ≠ 18) (by decide +kernel) (ev_k_ne hx3 (by decide)) (by decide +kernel) ?_ ?_
    · intro c139
      refine ev_r_iconst (pc := 37) (k := 0) (by decide +kernel) ?_
      exact hK38 x3 hx3 x6 hx6 0 (by decide) 1000000 (by decide) 0 (by decide) S _ (by exact (ev_l1 (ev_l1 (ev_l1 (ev_l1 (by rfl) (by decide) (by decide)) (by decide) (by decide)) (by decide) (by decide)) (by decide) (by decide))) (by exact (ev_l1 (ev_l1 (ev_l1 (ev_lk_st1 (by rfl) (by decide) rfl) (by decide) (by decide)) (by decide) (by decide)) (by decide) (by decide))) (by exact (ev_l1 (ev_l1 (ev_lk_st1 ev_lk_st1_self (by decide) rfl) (by decide) (by decide)) (by decide) (by decide))) (by exact (ev_l1 (ev_lk_st1 ev_lk_st1_self (by decide) rfl) (by decide) (by decide))) (by exact (ev_lk_st1 ev_lk_st1_self (by decide) rfl)) (by exact ev_lk_st1_self)
    · intro c139
      refine ev_r_iconst (pc := 33) (k := 2) (by decide +kernel) ?_
      refine ev_r_goto (pc := 34) (o := 4) (t := 38) (by decide +kernel) (by decide +kernel) ?_
      exact hK38 x3 hx3 x6 hx6 0 (by decide) 1000000 (by decide) 2 (by decide) S _ (by exact (ev_l1 (ev_l1 (ev_l1 (ev_l1 (by rfl) (by decide) (by decide)) (by decide) (by decide)) (by decide) (by decide)) (by decide) (by decide))) (by exact (ev_l1 (ev_l1 (ev_l1 (ev_lk_st1 (by rfl) (by decide) rfl) (by decide) (by decide)) (by decide) (by decide)) (by decide) (by decide))) (by exact (ev_l1 (ev_l1 (ev_lk_st1 ev_lk_st1_self (by decide) rfl) (by decide) (by decide)) (by decide) (by decide))) (by exact (ev_l1 (ev_lk_st1 ev_lk_st1_self (by decide) rfl) (by decide) (by decide))) (by exact (ev_lk_st1 ev_lk_st1_self (by decide) rfl)) (by exact ev_lk_st1_self)
/-- MendBench$Facts.learnNode(I)V -/
def jm_31 (Q : Nat) (a0 : Int) (S : ev_St) : Option ((Unit) × ev_St) := ev_if ((0 : Int) ≤ a0 ∧ a0 < (ev_aln 222 : Int)) (ev_b (ev_pI S 222 (Int.toNat a0) 0) fun s1 => ev_if ((0 : Int) ≤ a0 ∧ a0 < (ev_aln 223 : Int)) (ev_b (ev_pI s1 223 (Int.toNat a0) 0) fun s2 => ev_bd (jm_35 Q ((224 + 1)) a0 s2) fun _ s3 => ev_bd (jm_35 Q ((225 + 1)) a0 s3) fun _ s4 => ev_bd (jm_35 Q ((226 + 1)) a0 s4) fun _ s5 => ev_bd (jm_35 Q ((227 + 1)) a0 s5) fun _ s6 => ev_b (s6.2.2.1 221 9) fun r7 => ev_if (r7 ≠ 0) (ev_if ((0 : Int) ≤ a0 ∧ a0 < (ev_aln (((r7 - 1) + 1)) : Int)) (ev_b (s6.1 (((r7 - 1) + 1)) (Int.toNat a0)) fun x9 => if x9 ≠ 0 then (ev_bd (jm_61 Q x9 s6) fun x12 s11 => if x12 = 0 then (ev_jn (fun  (s17 : ev_St) => ev_bd (jm_36 Q ((224 + 1)) a0 ((-4294966272)) ((9223372036854775807)) s17) fun _ s18 => some ((), s18)) fun K164 => if x9 = 7 then (K164  s11) else (if x9 ≠ 9 then (ev_bd (jm_62 Q x9 s11) fun x22 s21 => if x22 = 0 then (if x9 ≠ 15 then (ev_bd (jm_64 Q x9 s21) fun x26 s25 => if x26 = 0 then (some ((), s25)) else (ev_bd (jm_34 Q a0 s25) fun _ s28 => some ((), s28))) else (ev_bd (jm_33 Q a0 s21) fun _ s29 => some ((), s29))) else (ev_bd (jm_32 Q a0 s21) fun _ s30 => some ((), s30))) else (K164  s11))) else (ev_if ((0 : Int) ≤ a0 ∧ a0 < (ev_aln 223 : Int)) (ev_b (ev_pI s11 223 (Int.toNat a0) 1) fun s31 => some ((), s31)))) else (ev_if ((0 : Int) ≤ a0 ∧ a0 < (ev_aln 222 : Int)) (ev_b (ev_pI s6 222 (Int.toNat a0) 1) fun s32 => ev_if ((0 : Int) ≤ a0 ∧ a0 < (ev_aln 223 : Int)) (ev_b (ev_pI s32 223 (Int.toNat a0) 1) fun s33 => ev_b (s33.2.2.1 221 9) fun r34 => ev_if (r34 ≠ 0) (ev_if ((0 : Int) ≤ a0 ∧ a0 < (ev_aln (((r34 - 1) + 8)) : Int)) (ev_b (s33.2.1 (((r34 - 1) + 8)) (Int.toNat a0)) fun y36 => ev_b (s33.2.2.1 221 9) fun r37 => ev_if (r37 ≠ 0) (ev_if ((0 : Int) ≤ a0 ∧ a0 < (ev_aln (((r37 - 1) + 9)) : Int)) (ev_b (s33.2.1 (((r37 - 1) + 9)) (Int.toNat a0)) fun y39 => ev_bd (jm_36 Q ((224 + 1)) a0 y36 y39 s33) fun _ s40 => ev_b (s40.2.2.1 221 9) fun r41 => ev_if (r41 ≠ 0) (ev_if ((0 : Int) ≤ a0 ∧ a0 < (ev_aln (((r41 - 1) + 8)) : Int)) (ev_b (s40.2.1 (((r41 - 1) + 8)) (Int.toNat a0)) fun y43 => ev_b (s40.2.2.1 221 9) fun r44 => ev_if (r44 ≠ 0) (ev_if ((0 : Int) ≤ a0 ∧ a0 < (ev_aln (((r44 - 1) + 9)) : Int)) (ev_b (s40.2.1 (((r44 - 1) + 9)) (Int.toNat a0)) fun y46 => ev_bd (jm_36 Q ((225 + 1)) a0 y43 y46 s40) fun _ s47 => some ((), s47))))))))))))))))
theorem jt_31 (d : Nat) (hd : 4 ≤ d) (Q : Nat) (a0 : Int) (ha0 : ev_rng a0) (S : ev_St) (x : Unit) (S' : ev_St) (hJ : jm_31 Q a0 S = some (x, S')) : ev_Ref d 31 [.ref 221, .int (Int32.ofInt a0)] S (ev_eU x) S' (ev_PU x) := by
  obtain ⟨d, rfl⟩ : ∃ e, d = e + 1 := ⟨d - 1, by omega⟩
  refine ev_ref_of (P := ev_PU) (lv := [(0, .ref 221), (1, .int (Int32.ofInt a0))]) (by decide +kernel) (by (try simp only [ev_sum, ev_nv_cat]); first | done | rfl) (by (try simp only [lv_args, ev_nv_cat]); first | done | rfl) ?_ x S' hJ
  unfold jm_31
  refine ev_r_aload_n (pc := 0) (k := 0) (v := .ref 221) trivial (by decide +kernel) (by rfl) ?_
  refine ev_r_getC (pc := 1) (y := 11) (ci := 2) (f := 0) (fin := 1) (k' := 222) (by decide +kernel) (by decide +kernel) (by exact ev_ob_221) rfl rfl ?_
  refine ev_r_iload_n (pc := 4) (k := 1) (v := Int32.ofInt a0) (by decide +kernel) (by rfl) ?_
  refine ev_r_iconst (pc := 5) (k := 0) (by decide +kernel) ?_
  refine ev_r_iast (pc := 6) (by decide) ha0 (by decide +kernel) (by exact ev_ab_222) ?_
  intro s1
  refine ev_r_aload_n (pc := 7) (k := 0) (v := .ref 221) trivial (by decide +kernel) (by rfl) ?_
  refine ev_r_getC (pc := 8) (y := 17) (ci := 2) (f := 1) (fin := 1) (k' := 223) (by decide +kernel) (by decide +kernel) (by exact ev_ob_221) rfl rfl ?_
  refine ev_r_iload_n (pc := 11) (k := 1) (v := Int32.ofInt a0) (by decide +kernel) (by rfl) ?_
  refine ev_r_iconst (pc := 12) (k := 0) (by decide +kernel) ?_
  refine ev_r_iast (pc := 13) (by decide) ha0 (by decide +kernel) (by exact ev_ab_223) ?_
  intro s2
  refine ev_r_aload_n (pc := 14) (k := 0) (v := .ref 221) trivial (by decide +kernel) (by rfl) ?_
  refine ev_r_aload_n (pc := 15) (k := 0) (v := .ref 221) trivial (by decide +kernel) (by rfl) ?_
  refine ev_r_getC (pc := 16) (y := 20) (ci := 2) (f := 2) (fin := 1) (k' := 224) (by decide +kernel) (by decide +kernel) (by exact ev_ob_221) rfl rfl ?_
  refine ev_r_iload_n (pc := 19) (k := 1) (v := Int32.ofInt a0) (by decide +kernel) (by rfl) ?_
  refine ev_r_virt (pc := 20) (y := 115) (mi := 35) (na := 2) (k := 221) (as := [ev_nv ((224 + 1)), .int (Int32.ofInt a0)]) (rest := []) (encc := ev_oU) (Q := ev_PU) (fun x S1 h => jt_35 d (by omega) Q ((224 + 1)) a0 (by exact (Or.inr ev_ab_224)) ha0 s2 x S1 h) (by exact ev_ob_221) (by decide +kernel) (by decide +kernel) (by decide +kernel) (by decide +kernel) rfl (by (try simp only [ev_sum, ev_nv_cat]); first | done | rfl) ?_
  intro _ s3 _
  show ev_w _ _ _ _ _ [] _ _ _ _
  refine ev_r_aload_n (pc := 23) (k := 0) (v := .ref 221) trivial (by decide +kernel) (by rfl) ?_
  refine ev_r_aload_n (pc := 24) (k := 0) (v := .ref 221) trivial (by decide +kernel) (by rfl) ?_
  refine ev_r_getC (pc := 25) (y := 24) (ci := 2) (f := 3) (fin := 1) (k' := 225) (by decide +kernel) (by decide +kernel) (by exact ev_ob_221) rfl rfl ?_
  refine ev_r_iload_n (pc := 28) (k := 1) (v := Int32.ofInt a0) (by decide +kernel) (by rfl) ?_
  refine ev_r_virt (pc := 29) (y := 115) (mi := 35) (na := 2) (k := 221) (as := [ev_nv ((225 + 1)), .int (Int32.ofInt a0)]) (rest := []) (encc := ev_oU) (Q := ev_PU) (fun x S1 h => jt_35 d (by omega) Q ((225 + 1)) a0 (by exact (Or.inr ev_ab_225)) ha0 s3 x S1 h) (by exact ev_ob_221) (by decide +kernel) (by decide +kernel) (by decide +kernel) (by decide +kernel) rfl (by (try simp only [ev_sum, ev_nv_cat]); first | done | rfl) ?_
  intro _ s4 _
  show ev_w _ _ _ _ _ [] _ _ _ _
  refine ev_r_aload_n (pc := 32) (k := 0) (v := .ref 221) trivial (by decide +kernel) (by rfl) ?_
  refine ev_r_aload_n (pc := 33) (k := 0) (v := .ref 221) trivial (by decide +kernel) (by rfl) ?_
  refine ev_r_getC (pc := 34) (y := 27) (ci := 2) (f := 4) (fin := 1) (k' := 226) (by decide +kernel) (by decide +kernel) (by exact ev_ob_221) rfl rfl ?_
  refine ev_r_iload_n (pc := 37) (k := 1) (v := Int32.ofInt a0) (by decide +kernel) (by rfl) ?_
  refine ev_r_virt (pc := 38) (y := 115) (mi := 35) (na := 2) (k := 221) (as := [ev_nv ((226 + 1)), .int (Int32.ofInt a0)]) (rest := []) (encc := ev_oU) (Q := ev_PU) (fun x S1 h => jt_35 d (by omega) Q ((226 + 1)) a0 (by exact (Or.inr ev_ab_226)) ha0 s4 x S1 h) (by exact ev_ob_221) (by decide +kernel) (by decide +kernel) (by decide +kernel) (by decide +kernel) rfl (by (try simp only [ev_sum, ev_nv_cat]); first | done | rfl) ?_
  intro _ s5 _
  show ev_w _ _ _ _ _ [] _ _ _ _
  refine ev_r_aload_n (pc := 41) (k := 0) (v := .ref 221) trivial (by decide +kernel) (by rfl) ?_
  refine ev_r_aload_n (pc := 42) (k := 0) (v := .ref 221) trivial (by decide +kernel) (by rfl) ?_
  refine ev_r_getC (pc := 43) (y := 30) (ci := 2) (f := 5) (fin := 1) (k' := 227) (by decide +kernel) (by decide +kernel) (by exact ev_ob_221) rfl rfl ?_
  refine ev_r_iload_n (pc := 46) (k := 1) (v := Int32.ofInt a0) (by decide +kernel) (by rfl) ?_
  refine ev_r_virt (pc := 47) (y := 115) (mi := 35) (na := 2) (k := 221) (as := [ev_nv ((227 + 1)), .int (Int32.ofInt a0)]) (rest := []) (encc := ev_oU) (Q := ev_PU) (fun x S1 h => jt_35 d (by omega) Q ((227 + 1)) a0 (by exact (Or.inr ev_ab_227)) ha0 s5 x S1 h) (by exact ev_ob_221) (by decide +kernel) (by decide +kernel) (by decide +kernel) (by decide +kernel) rfl (by (try simp only [ev_sum, ev_nv_cat]); first | done | rfl) ?_
  intro _ s6 _
  show ev_w _ _ _ _ _ [] _ _ _ _
  refine ev_r_aload_n (pc := 50) (k := 0) (v := .ref 221) trivial (by decide +kernel) (by rfl) ?_
  refine ev_r_getR (pc := 51) (y := 47) (ci := 2) (f := 9) (fin := 0) (t := 5) (by decide +kernel) (by decide +kernel) (by exact ev_ob_221) rfl rfl ?_
  intro r7 hr7
  have hr7 : r7 = 0 ∨ ev_isOb (r7 - 1) 5 = true := hr7
  refine ev_r_chk ?_
  intro c8
  refine ev_r_dr (r := r7) (fun v => [v]) c8 ?_
  refine ev_r_getC (pc := 54) (y := 119) (ci := 5) (f := 0) (fin := 2) (k' := ((r7 - 1) + 1)) (by decide +kernel) (by decide +kernel) (by exact (hr7.resolve_left c8)) rfl rfl ?_
  refine ev_r_iload_n (pc := 57) (k := 1) (v := Int32.ofInt a0) (by decide +kernel) (by rfl) ?_
  refine ev_r_iald (pc := 58) ha0 (by decide +kernel) (by exact (ev_fo_5_0 (hr7.resolve_left c8))) ?_
  intro x9 hx9
  refine ev_r_istore_n (pc := 59) (k := 2) (by decide +kernel) (by decide +kernel) rfl ?_
  refine ev_r_iload_n (pc := 60) (k := 2) (v := Int32.ofInt x9) (by decide +kernel) (by exact ev_lk_st1_self) ?_
  refine ev_r_if (pc := 61) (q := .ne) (o := 74) (t := 135) (c := x9 ≠ 0) (by decide +kernel) (ev_k_ne hx9 ev_rng0) (by decide +kernel) ?_ ?_
  · intro c10
    refine ev_r_iload_n (pc := 135) (k := 2) (v := Int32.ofInt x9) (by decide +kernel) (by exact ev_lk_st1_self) ?_
    refine ev_r_stat (pc := 136) (y := 132) (kind := 2) (mi := 61) (na := 1) (as := [.int (Int32.ofInt x9)]) (rest := []) (encc := ev_oI) (Q := ev_bl) (fun x S1 h => jt_61 d (by omega) Q x9 hx9 s6 x S1 h) (Or.inl rfl) (by decide +kernel) (by decide +kernel) (by decide +kernel) (by decide +kernel) rfl (by (try simp only [ev_sum, ev_nv_cat]); first | done | rfl) ?_
    intro x12 s11 hx12
    replace hx12 := ev_bl_rng hx12
    show ev_w _ _ _ _ _ [.int (Int32.ofInt x12)] _ _ _ _
    refine ev_r_if (pc := 139) (q := .eq) (o := 13) (t := 152) (c := x12 = 0) (by decide +kernel) (ev_k_eq hx12 ev_rng0) (by decide +kernel) ?_ ?_
    · intro c13
      refine ev_r_iload_n (pc := 152) (k := 2) (v := Int32.ofInt x9) (by decide +kernel) (by exact ev_lk_st1_self) ?_
      refine ev_r_bipush (pc := 153) (k := 7) (by decide +kernel) (by decide +kernel) ?_
      refine ev_r_jn (Q := fun K => ∀ (s17 : ev_St) (w14 : List (Nat × Value)), ev_lk w14 0 = some (.ref 221) → ev_lk w14 1 = some (.int (Int32.ofInt a0)) → ev_w none (ev_Mof 31) d 164 w14 [] s17 (K  s17) ev_eU ev_PU) ?_ ?_
      · intro  s17 w14 e15 e16
        refine ev_r_aload_n (pc := 164) (k := 0) (v := .ref 221) trivial (by decide +kernel) (by exact e15) ?_
        refine ev_r_aload_n (pc := 165) (k := 0) (v := .ref 221) trivial (by decide +kernel) (by exact e15) ?_
        refine ev_r_getC (pc := 166) (y := 20) (ci := 2) (f := 2) (fin := 1) (k' := 224) (by decide +kernel) (by decide +kernel) (by exact ev_ob_221) rfl rfl ?_
        refine ev_r_iload_n (pc := 169) (k := 1) (v := Int32.ofInt a0) (by decide +kernel) (by exact e16) ?_
        refine ev_r_ldc2 (pc := 170) (y := 135) (k := -4294966272) (by decide +kernel) (by decide +kernel) ?_
        refine ev_r_ldc2 (pc := 173) (y := 137) (k := 9223372036854775807) (by decide +kernel) (by decide +kernel) ?_
        refine ev_r_virt (pc := 176) (y := 128) (mi := 36) (na := 4) (k := 221) (as := [ev_nv ((224 + 1)), .int (Int32.ofInt a0), .long ((-4294966272)), .long ((9223372036854775807))]) (rest := []) (encc := ev_oU) (Q := ev_PU) (fun x S1 h => jt_36 d (by omega) Q ((224 + 1)) a0 ((-4294966272)) ((9223372036854775807)) (by exact (Or.inr ev_ab_224)) ha0 s17 x S1 h) (by exact ev_ob_221) (by decide +kernel) (by decide +kernel) (by decide +kernel) (by decide +kernel) rfl (by (try simp only [ev_sum, ev_nv_cat]); first | done | rfl) ?_
        intro _ s18 _
        show ev_w _ _ _ _ _ [] _ _ _ _
        refine ev_r_goto (pc := 179) (o := 44) (t := 223) (by decide +kernel) (by decide +kernel) ?_
        exact ev_r_return (pc := 223) (x := ()) trivial (by decide +kernel) (by decide +kernel) rfl
      · intro K164 hK164
        refine ev_r_icmp (pc := 155) (q := .eq) (o := 9) (t := 164) (c := x9 = 7) (by decide +kernel) (ev_k_eq hx9 (by decide)) (by decide +kernel) ?_ ?_
        · intro c19
          exact hK164  s11 _ (by exact (ev_l1 (by rfl) (by decide) (by decide))) (by exact (ev_lk_st1 (by rfl) (by decide) rfl))
        · intro c19
          refine ev_r_iload_n (pc := 158) (k := 2) (v := Int32.ofInt x9) (by decide +kernel) (by exact ev_lk_st1_self) ?_
          refine ev_r_bipush (pc := 159) (k := 9) (by decide +kernel) (by decide +kernel) ?_
          refine ev_r_icmp (pc := 161) (q := .ne) (o := 21) (t := 182) (c := x9 ≠ 9) (by decide +kernel) (ev_k_ne hx9 (by decide)) (by decide +kernel) ?_ ?_
          · intro c20
            refine ev_r_iload_n (pc := 182) (k := 2) (v := Int32.ofInt x9) (by decide +kernel) (by exact ev_lk_st1_self) ?_
            refine ev_r_stat (pc := 183) (y := 139) (kind := 2) (mi := 62) (na := 1) (as := [.int (Int32.ofInt x9)]) (rest := []) (encc := ev_oI) (Q := ev_bl) (fun x S1 h => jt_62 d (by omega) Q x9 hx9 s11 x S1 h) (Or.inl rfl) (by decide +kernel) (by decide +kernel) (by decide +kernel) (by decide +kernel) rfl (by (try simp only [ev_sum, ev_nv_cat]); first | done | rfl) ?_
            intro x22 s21 hx22
            replace hx22 := ev_bl_rng hx22
            show ev_w _ _ _ _ _ [.int (Int32.ofInt x22)] _ _ _ _
            refine ev_r_if (pc := 186) (q := .eq) (o := 11) (t := 197) (c := x22 = 0) (by decide +kernel) (ev_k_eq hx22 ev_rng0) (by decide +kernel) ?_ ?_
            · intro c23
              refine ev_r_iload_n (pc := 197) (k := 2) (v := Int32.ofInt x9) (by decide +kernel) (by exact ev_lk_st1_self) ?_
              refine ev_r_bipush (pc := 198) (k := 15) (by decide +kernel) (by decide +kernel) ?_
              refine ev_r_icmp (pc := 200) (q := .ne) (o := 11) (t := 211) (c := x9 ≠ 15) (by decide +kernel) (ev_k_ne hx9 (by decide)) (by decide +kernel) ?_ ?_
              · intro c24
                refine ev_r_iload_n (pc := 211) (k := 2) (v := Int32.ofInt x9) (by decide +kernel) (by exact ev_lk_st1_self) ?_
                refine ev_r_stat (pc := 212) (y := 148) (kind := 2) (mi := 64) (na := 1) (as := [.int (Int32.ofInt x9)]) (rest := []) (encc := ev_oI) (Q := ev_bl) (fun x S1 h => jt_64 d (by omega) Q x9 hx9 s21 x S1 h) (Or.inl rfl) (by decide +kernel) (by decide +kernel) (by decide +kernel) (by decide +kernel) rfl (by (try simp only [ev_sum, ev_nv_cat]); first | done | rfl) ?_
                intro x26 s25 hx26
                replace hx26 := ev_bl_rng hx26
                show ev_w _ _ _ _ _ [.int (Int32.ofInt x26)] _ _ _ _
                refine ev_r_if (pc := 215) (q := .eq) (o := 8) (t := 223) (c := x26 = 0) (by decide +kernel) (ev_k_eq hx26 ev_rng0) (by decide +kernel) ?_ ?_
                · intro c27
                  exact ev_r_return (pc := 223) (x := ()) trivial (by decide +kernel) (by decide +kernel) rfl
                · intro c27
                  refine ev_r_aload_n (pc := 218) (k := 0) (v := .ref 221) trivial (by decide +kernel) (by exact (ev_l1 (by rfl) (by decide) (by decide))) ?_
                  refine ev_r_iload_n (pc := 219) (k := 1) (v := Int32.ofInt a0) (by decide +kernel) (by exact (ev_lk_st1 (by rfl) (by decide) rfl)) ?_
                  refine ev_r_virt (pc := 220) (y := 151) (mi := 34) (na := 1) (k := 221) (as := [.int (Int32.ofInt a0)]) (rest := []) (encc := ev_oU) (Q := ev_PU) (fun x S1 h => jt_34 d (by omega) Q a0 ha0 s25 x S1 h) (by exact ev_ob_221) (by decide +kernel) (by decide +kernel) (by decide +kernel) (by decide +kernel) rfl (by (try simp only [ev_sum, ev_nv_cat]); first | done | rfl) ?_
                  intro _ s28 _
                  show ev_w _ _ _ _ _ [] _ _ _ _
                  exact ev_r_return (pc := 223) (x := ()) trivial (by decide +kernel) (by decide +kernel) rfl
              · intro c24
                refine ev_r_aload_n (pc := 203) (k := 0) (v := .ref 221) trivial (by decide +kernel) (by exact (ev_l1 (by rfl) (by decide) (by decide))) ?_
                refine ev_r_iload_n (pc := 204) (k := 1) (v := Int32.ofInt a0) (by decide +kernel) (by exact (ev_lk_st1 (by rfl) (by decide) rfl)) ?_
                refine ev_r_virt (pc := 205) (y := 145) (mi := 33) (na := 1) (k := 221) (as := [.int (Int32.ofInt a0)]) (rest := []) (encc := ev_oU) (Q := ev_PU) (fun x S1 h => jt_33 d (by omega) Q a0 ha0 s21 x S1 h) (by exact ev_ob_221) (by decide +kernel) (by decide +kernel) (by decide +kernel) (by decide +kernel) rfl (by (try simp only [ev_sum, ev_nv_cat]); first | done | rfl) ?_
                intro _ s29 _
                show ev_w _ _ _ _ _ [] _ _ _ _
                refine ev_r_goto (pc := 208) (o := 15) (t := 223) (by decide +kernel) (by decide +kernel) ?_
                exact ev_r_return (pc := 223) (x := ()) trivial (by decide +kernel) (by decide +kernel) rfl
            · intro c23
              refine ev_r_aload_n (pc := 189) (k := 0) (v := .ref 221) trivial (by decide +kernel) (by exact (ev_l1 (by rfl) (by decide) (by decide))) ?_
              refine ev_r_iload_n (pc := 190) (k := 1) (v := Int32.ofInt a0) (by decide +kernel) (by exact (ev_lk_st1 (by rfl) (by decide) rfl)) ?_
              refine ev_r_virt (pc := 191) (y := 142) (mi := 32) (na := 1) (k := 221) (as := [.int (Int32.ofInt a0)]) (rest := []) (encc := ev_oU) (Q := ev_PU) (fun x S1 h => jt_32 d (by omega) Q a0 ha0 s21 x S1 h) (by exact ev_ob_221) (by decide +kernel) (by decide +kernel) (by decide +kernel) (by decide +kernel) rfl (by (try simp only [ev_sum, ev_nv_cat]); first | done | rfl) ?_
              intro _ s30 _
              show ev_w _ _ _ _ _ [] _ _ _ _
              refine ev_r_goto (pc := 194) (o := 29) (t := 223) (by decide +kernel) (by decide +kernel) ?_
              exact ev_r_return (pc := 223) (x := ()) trivial (by decide +kernel) (by decide +kernel) rfl
          · intro c20
            exact hK164  s11 _ (by exact (ev_l1 (by rfl) (by decide) (by decide))) (by exact (ev_lk_st1 (by rfl) (by decide) rfl))
    · intro c13
      refine ev_r_aload_n (pc := 142) (k := 0) (v := .ref 221) trivial (by decide +kernel) (by exact (ev_l1 (by rfl) (by decide) (by decide))) ?_
      refine ev_r_getC (pc := 143) (y := 17) (ci := 2) (f := 1) (fin := 1) (k' := 223) (by decide +kernel) (by decide +kernel) (by exact ev_ob_221) rfl rfl ?_
      refine ev_r_iload_n (pc := 146) (k := 1) (v := Int32.ofInt a0) (by decide +kernel) (by exact (ev_lk_st1 (by rfl) (by decide) rfl)) ?_
      refine ev_r_iconst (pc := 147) (k := 1) (by decide +kernel) ?_
      refine ev_r_iast (pc := 148) (by decide) ha0 (by decide +kernel) (by exact ev_ab_223) ?_
      intro s31
      refine ev_r_goto (pc := 149) (o := 74) (t := 223) (by decide +kernel) (by decide +kernel) ?_
      exact ev_r_return (pc := 223) (x := ()) trivial (by decide +kernel) (by decide +kernel) rfl
  · intro c10
    refine ev_r_aload_n (pc := 64) (k := 0) (v := .ref 221) trivial (by decide +kernel) (by exact (ev_l1 (by rfl) (by decide) (by decide))) ?_
    refine ev_r_getC (pc := 65) (y := 11) (ci := 2) (f := 0) (fin := 1) (k' := 222) (by decide +kernel) (by decide +kernel) (by exact ev_ob_221) rfl rfl ?_
    refine ev_r_iload_n (pc := 68) (k := 1) (v := Int32.ofInt a0) (by decide +kernel) (by exact (ev_lk_st1 (by rfl) (by decide) rfl)) ?_
    refine ev_r_iconst (pc := 69) (k := 1) (by decide +kernel) ?_
    refine ev_r_iast (pc := 70) (by decide) ha0 (by decide +kernel) (by exact ev_ab_222) ?_
    intro s32
    refine ev_r_aload_n (pc := 71) (k := 0) (v := .ref 221) trivial (by decide +kernel) (by exact (ev_l1 (by rfl) (by decide) (by decide))) ?_
    refine ev_r_getC (pc := 72) (y := 17) (ci := 2) (f := 1) (fin := 1) (k' := 223) (by decide +kernel) (by decide +kernel) (by exact ev_ob_221) rfl rfl ?_
    refine ev_r_iload_n (pc := 75) (k := 1) (v := Int32.ofInt a0) (by decide +kernel) (by exact (ev_lk_st1 (by rfl) (by decide) rfl)) ?_
    refine ev_r_iconst (pc := 76) (k := 1) (by decide +kernel) ?_
    refine ev_r_iast (pc := 77) (by decide) ha0 (by decide +kernel) (by exact ev_ab_223) ?_
    intro s33
    refine ev_r_aload_n (pc := 78) (k := 0) (v := .ref 221) trivial (by decide +kernel) (by exact (ev_l1 (by rfl) (by decide) (by decide))) ?_
    refine ev_r_aload_n (pc := 79) (k := 0) (v := .ref 221) trivial (by decide +kernel) (by exact (ev_l1 (by rfl) (by decide) (by decide))) ?_
    refine ev_r_getC (pc := 80) (y := 20) (ci := 2) (f := 2) (fin := 1) (k' := 224) (by decide +kernel) (by decide +kernel) (by exact ev_ob_221) rfl rfl ?_
    refine ev_r_iload_n (pc := 83) (k := 1) (v := Int32.ofInt a0) (by decide +kernel) (by exact (ev_lk_st1 (by rfl) (by decide) rfl)) ?_
    refine ev_r_aload_n (pc := 84) (k := 0) (v := .ref 221) trivial (by decide +kernel) (by exact (ev_l1 (by rfl) (by decide) (by decide))) ?_
    refine ev_r_getR (pc := 85) (y := 47) (ci := 2) (f := 9) (fin := 0) (t := 5) (by decide +kernel) (by decide +kernel) (by exact ev_ob_221) rfl rfl ?_
    intro r34 hr34
    have hr34 : r34 = 0 ∨ ev_isOb (r34 - 1) 5 = true := hr34
    refine ev_r_chk ?_
    intro c35
    refine ev_r_dr (r := r34) (fun v => [v, .int (Int32.ofInt a0), .ref 224, .ref 221]) c35 ?_
    refine ev_r_getC (pc := 88) (y := 122) (ci := 5) (f := 7) (fin := 2) (k' := ((r34 - 1) + 8)) (by decide +kernel) (by decide +kernel) (by exact (hr34.resolve_left c35)) rfl rfl ?_
    refine ev_r_iload_n (pc := 91) (k := 1) (v := Int32.ofInt a0) (by decide +kernel) (by exact (ev_lk_st1 (by rfl) (by decide) rfl)) ?_
    refine ev_r_lald (pc := 92) ha0 (by decide +kernel) (by exact (ev_fo_5_7 (hr34.resolve_left c35))) ?_
    intro y36
    refine ev_r_aload_n (pc := 93) (k := 0) (v := .ref 221) trivial (by decide +kernel) (by exact (ev_l1 (by rfl) (by decide) (by decide))) ?_
    refine ev_r_getR (pc := 94) (y := 47) (ci := 2) (f := 9) (fin := 0) (t := 5) (by decide +kernel) (by decide +kernel) (by exact ev_ob_221) rfl rfl ?_
    intro r37 hr37
    have hr37 : r37 = 0 ∨ ev_isOb (r37 - 1) 5 = true := hr37
    refine ev_r_chk ?_
    intro c38
    refine ev_r_dr (r := r37) (fun v => [v, .long y36, .int (Int32.ofInt a0), .ref 224, .ref 221]) c38 ?_
    refine ev_r_getC (pc := 97) (y := 125) (ci := 5) (f := 8) (fin := 2) (k' := ((r37 - 1) + 9)) (by decide +kernel) (by decide +kernel) (by exact (hr37.resolve_left c38)) rfl rfl ?_
    refine ev_r_iload_n (pc := 100) (k := 1) (v := Int32.ofInt a0) (by decide +kernel) (by exact (ev_lk_st1 (by rfl) (by decide) rfl)) ?_
    refine ev_r_lald (pc := 101) ha0 (by decide +kernel) (by exact (ev_fo_5_8 (hr37.resolve_left c38))) ?_
    intro y39
    refine ev_r_virt (pc := 102) (y := 128) (mi := 36) (na := 4) (k := 221) (as := [ev_nv ((224 + 1)), .int (Int32.ofInt a0), .long y36, .long y39]) (rest := []) (encc := ev_oU) (Q := ev_PU) (fun x S1 h => jt_36 d (by omega) Q ((224 + 1)) a0 y36 y39 (by exact (Or.inr ev_ab_224)) ha0 s33 x S1 h) (by exact ev_ob_221) (by decide +kernel) (by decide +kernel) (by decide +kernel) (by decide +kernel) rfl (by (try simp only [ev_sum, ev_nv_cat]); first | done | rfl) ?_
    intro _ s40 _
    show ev_w _ _ _ _ _ [] _ _ _ _
    refine ev_r_aload_n (pc := 105) (k := 0) (v := .ref 221) trivial (by decide +kernel) (by exact (ev_l1 (by rfl) (by decide) (by decide))) ?_
    refine ev_r_aload_n (pc := 106) (k := 0) (v := .ref 221) trivial (by decide +kernel) (by exact (ev_l1 (by rfl) (by decide) (by decide))) ?_
    refine ev_r_getC (pc := 107) (y := 24) (ci := 2) (f := 3) (fin := 1) (k' := 225) (by decide +kernel) (by decide +kernel) (by exact ev_ob_221) rfl rfl ?_
    refine ev_r_iload_n (pc := 110) (k := 1) (v := Int32.ofInt a0) (by decide +kernel) (by exact (ev_lk_st1 (by rfl) (by decide) rfl)) ?_
    refine ev_r_aload_n (pc := 111) (k := 0) (v := .ref 221) trivial (by decide +kernel) (by exact (ev_l1 (by rfl) (by decide) (by decide))) ?_
    refine ev_r_getR (pc := 112) (y := 47) (ci := 2) (f := 9) (fin := 0) (t := 5) (by decide +kernel) (by decide +kernel) (by exact ev_ob_221) rfl rfl ?_
    intro r41 hr41
    have hr41 : r41 = 0 ∨ ev_isOb (r41 - 1) 5 = true := hr41
    refine ev_r_chk ?_
    intro c42
    refine ev_r_dr (r := r41) (fun v => [v, .int (Int32.ofInt a0), .ref 225, .ref 221]) c42 ?_
    refine ev_r_getC (pc := 115) (y := 122) (ci := 5) (f := 7) (fin := 2) (k' := ((r41 - 1) + 8)) (by decide +kernel) (by decide +kernel) (by exact (hr41.resolve_left c42)) rfl rfl ?_
    refine ev_r_iload_n (pc := 118) (k := 1) (v := Int32.ofInt a0) (by decide +kernel) (by exact (ev_lk_st1 (by rfl) (by decide) rfl)) ?_
    refine ev_r_lald (pc := 119) ha0 (by decide +kernel) (by exact (ev_fo_5_7 (hr41.resolve_left c42))) ?_
    intro y43
    refine ev_r_aload_n (pc := 120) (k := 0) (v := .ref 221) trivial (by decide +kernel) (by exact (ev_l1 (by rfl) (by decide) (by decide))) ?_
    refine ev_r_getR (pc := 121) (y := 47) (ci := 2) (f := 9) (fin := 0) (t := 5) (by decide +kernel) (by decide +kernel) (by exact ev_ob_221) rfl rfl ?_
    intro r44 hr44
    have hr44 : r44 = 0 ∨ ev_isOb (r44 - 1) 5 = true := hr44
    refine ev_r_chk ?_
    intro c45
    refine ev_r_dr (r := r44) (fun v => [v, .long y43, .int (Int32.ofInt a0), .ref 225, .ref 221]) c45 ?_
    refine ev_r_getC (pc := 124) (y := 125) (ci := 5) (f := 8) (fin := 2) (k' := ((r44 - 1) + 9)) (by decide +kernel) (by decide +kernel) (by exact (hr44.resolve_left c45)) rfl rfl ?_
    refine ev_r_iload_n (pc := 127) (k := 1) (v := Int32.ofInt a0) (by decide +kernel) (by exact (ev_lk_st1 (by rfl) (by decide) rfl)) ?_
    refine ev_r_lald (pc := 128) ha0 (by decide +kernel) (by exact (ev_fo_5_8 (hr44.resolve_left c45))) ?_
    intro y46
    refine ev_r_virt (pc := 129) (y := 128) (mi := 36) (na := 4) (k := 221) (as := [ev_nv ((225 + 1)), .int (Int32.ofInt a0), .long y43, .long y46]) (rest := []) (encc := ev_oU) (Q := ev_PU) (fun x S1 h => jt_36 d (by omega) Q ((225 + 1)) a0 y43 y46 (by exact (Or.inr ev_ab_225)) ha0 s40 x S1 h) (by exact ev_ob_221) (by decide +kernel) (by decide +kernel) (by decide +kernel) (by decide +kernel) rfl (by (try simp only [ev_sum, ev_nv_cat]); first | done | rfl) ?_
    intro _ s47 _
    show ev_w _ _ _ _ _ [] _ _ _ _
    refine ev_r_goto (pc := 132) (o := 91) (t := 223) (by decide +kernel) (by decide +kernel) ?_
    exact ev_r_return (pc := 223) (x := ()) trivial (by decide +kernel) (by decide +kernel) rfl
/-- MendBench$Pattern.root()I -/
def jm_60 (Q : Nat) (k : Nat) (S : ev_St) : Option ((Int) × ev_St) := ev_if ((0 : Int) ≤ 0 ∧ 0 < (ev_aln ((k + 10)) : Int)) (ev_b (S.1 ((k + 10)) (Int.toNat 0)) fun x1 => some (x1, S))
theorem jt_60 (d : Nat) (hd : 1 ≤ d) (Q : Nat) (k : Nat) (hk : ev_isOb k 5 = true) (S : ev_St) (x : Int) (S' : ev_St) (hJ : jm_60 Q k S = some (x, S')) : ev_Ref d 60 [.ref k] S (ev_eI x) S' (ev_rng x) := by
  obtain ⟨d, rfl⟩ : ∃ e, d = e + 1 := ⟨d - 1, by omega⟩
  refine ev_ref_of (P := ev_rng) (lv := [(0, .ref k)]) (by decide +kernel) (by (try simp only [ev_sum, ev_nv_cat]); first | done | rfl) (by (try simp only [lv_args, ev_nv_cat]); first | done | rfl) ?_ x S' hJ
  unfold jm_60
  refine ev_r_aload_n (pc := 0) (k := 0) (v := .ref k) trivial (by decide +kernel) (by rfl) ?_
  refine ev_r_getC (pc := 1) (y := 40) (ci := 5) (f := 9) (fin := 1) (k' := (k + 10)) (by decide +kernel) (by decide +kernel) (by exact hk) rfl rfl ?_
  refine ev_r_iconst (pc := 4) (k := 0) (by decide +kernel) ?_
  refine ev_r_iald (pc := 5) (by decide) (by decide +kernel) (by exact (ev_fo_5_9 hk)) ?_
  intro x1 hx1
  exact ev_r_ireturn (pc := 6) (x := x1) (v := Int32.ofInt x1) (ty := .int) hx1 (by decide +kernel) (by decide +kernel) rfl rfl
/-- MendBench.hasSign(JJI)Z -/
def jm_214 (Q : Nat) (a0 : Int64) (a1 : Int64) (a2 : Int) (S : ev_St) : Option ((Int) × ev_St) := if a2 < 0 then (some (0, S)) else (if 128 ≤ a2 then (some (0, S)) else (ev_jn (fun (y3 : Int64) (s6 : ev_St) => ev_b (ev_iand a2 63) fun x7 => ev_b (ev_lushr y3 x7) fun y8 => ev_b (y8 &&& (Int64.ofNat ((1 : Fin 2) : Nat))) fun y9 => ev_b (ev_lcmp y9 ((Int64.ofNat ((0 : Fin 2) : Nat)))) fun x10 => if x10 = 0 then (some (0, s6)) else (some (1, s6))) fun K25 => if 64 ≤ a2 then (K25 a1 S) else (K25 a0 S)))
theorem jt_214 (d : Nat) (hd : 1 ≤ d) (Q : Nat) (a0 : Int64) (a1 : Int64) (a2 : Int) (ha2 : ev_rng a2) (S : ev_St) (x : Int) (S' : ev_St) (hJ : jm_214 Q a0 a1 a2 S = some (x, S')) : ev_Ref d 214 [.long a0, .long a1, .int (Int32.ofInt a2)] S (ev_eI x) S' (ev_bl x) := by
  obtain ⟨d, rfl⟩ : ∃ e, d = e + 1 := ⟨d - 1, by omega⟩
  refine ev_ref_of (P := ev_bl) (lv := [(0, .long a0), (2, .long a1), (4, .int (Int32.ofInt a2))]) (by decide +kernel) (by (try simp only [ev_sum, ev_nv_cat]); first | done | rfl) (by (try simp only [lv_args, ev_nv_cat]); first | done | rfl) ?_ x S' hJ
  unfold jm_214
  refine ev_r_iload (pc := 0) (k := 4) (v := Int32.ofInt a2) (by decide +kernel) (by rfl) ?_
  refine ev_r_if (pc := 2) (q := .lt) (o := 40) (t := 42) (c := a2 < 0) (by decide +kernel) (ev_k_lt ha2 ev_rng0) (by decide +kernel) ?_ ?_
  · intro c1
    refine ev_r_iconst (pc := 42) (k := 0) (by decide +kernel) ?_
    exact ev_r_ireturn (pc := 43) (x := 0) (v := Int32.ofInt 0) (ty := .boolean) (by decide : ev_bl 0) (by decide +kernel) (by decide +kernel) (ev_ret_bl (by decide : ev_bl 0)) rfl
  · intro c1
    refine ev_r_iload (pc := 5) (k := 4) (v := Int32.ofInt a2) (by decide +kernel) (by rfl) ?_
    refine ev_r_sipush (pc := 7) (k := 128) (by decide +kernel) (by decide +kernel) ?_
    refine ev_r_icmp (pc := 10) (q := .ge) (o := 32) (t := 42) (c := 128 ≤ a2) (by decide +kernel) (ev_k_ge ha2 (by decide)) (by decide +kernel) ?_ ?_
    · intro c2
      refine ev_r_iconst (pc := 42) (k := 0) (by decide +kernel) ?_
      exact ev_r_ireturn (pc := 43) (x := 0) (v := Int32.ofInt 0) (ty := .boolean) (by decide : ev_bl 0) (by decide +kernel) (by decide +kernel) (ev_ret_bl (by decide : ev_bl 0)) rfl
    · intro c2
      refine ev_r_iload (pc := 13) (k := 4) (v := Int32.ofInt a2) (by decide +kernel) (by rfl) ?_
      refine ev_r_bipush (pc := 15) (k := 64) (by decide +kernel) (by decide +kernel) ?_
      refine ev_r_jn (Q := fun K => ∀ (y3 : Int64), ∀ (s6 : ev_St) (w4 : List (Nat × Value)), ev_lk w4 4 = some (.int (Int32.ofInt a2)) → ev_w none (ev_Mof 214) d 25 w4 [.long y3] s6 (K y3 s6) ev_eI ev_bl) ?_ ?_
      · intro y3 s6 w4 e5
        refine ev_r_iload (pc := 25) (k := 4) (v := Int32.ofInt a2) (by decide +kernel) (by exact e5) ?_
        refine ev_r_bipush (pc := 27) (k := 63) (by decide +kernel) (by decide +kernel) ?_
        refine ev_r_iand (pc := 29) (by decide +kernel) ?_
        intro x7 hx7
        refine ev_r_toL (pc := 30) (i := .lushr) (len := 1) (pc' := 31) (by decide +kernel) rfl ?_
        intro y8
        refine ev_r_lconst (pc := 31) (c := 1) (by decide +kernel) ?_
        refine ev_r_toL (pc := 32) (i := .land) (len := 1) (pc' := 33) (by decide +kernel) rfl ?_
        intro y9
        refine ev_r_lconst (pc := 33) (c := 0) (by decide +kernel) ?_
        refine ev_r_toI (pc := 34) (i := .lcmp) (len := 1) (pc' := 35) (by decide +kernel) rfl ?_
        intro x10 hx10
        refine ev_r_if (pc := 35) (q := .eq) (o := 7) (t := 42) (c := x10 = 0) (by decide +kernel) (ev_k_eq hx10 ev_rng0) (by decide +kernel) ?_ ?_
        · intro c11
          refine ev_r_iconst (pc := 42) (k := 0) (by decide +kernel) ?_
          exact ev_r_ireturn (pc := 43) (x := 0) (v := Int32.ofInt 0) (ty := .boolean) (by decide : ev_bl 0) (by decide +kernel) (by decide +kernel) (ev_ret_bl (by decide : ev_bl 0)) rfl
        · intro c11
          refine ev_r_iconst (pc := 38) (k := 1) (by decide +kernel) ?_
          refine ev_r_goto (pc := 39) (o := 4) (t := 43) (by decide +kernel) (by decide +kernel) ?_
          exact ev_r_ireturn (pc := 43) (x := 1) (v := Int32.ofInt 1) (ty := .boolean) (by decide : ev_bl 1) (by decide +kernel) (by decide +kernel) (ev_ret_bl (by decide : ev_bl 1)) rfl
      · intro K25 hK25
        refine ev_r_icmp (pc := 17) (q := .ge) (o := 7) (t := 24) (c := 64 ≤ a2) (by decide +kernel) (ev_k_ge ha2 (by decide)) (by decide +kernel) ?_ ?_
        · intro c12
          refine ev_r_lload_n (pc := 24) (k := 2) (v := a1) (by decide +kernel) (by rfl) ?_
          exact hK25 a1 S _ (by rfl)
        · intro c12
          refine ev_r_lload_n (pc := 20) (k := 0) (v := a0) (by decide +kernel) (by rfl) ?_
          refine ev_r_goto (pc := 21) (o := 4) (t := 25) (by decide +kernel) (by decide +kernel) ?_
          exact hK25 a0 S _ (by rfl)
def jb_30_3 (Q : Nat) (a0 : Int64) (a1 : Int64)  (K3 : Int → ev_St → Option ((Int) × ev_St)) (x1 : Int) (s6 : ev_St) : Option ((Int) × ev_St) := if 128 ≤ x1 then (some ((-1), s6)) else (ev_bd (jm_214 Q a0 a1 x1 s6) fun x9 s8 => if x9 = 0 then (ev_ck (x1 + 1) fun x11 => K3 x11 s8) else (some (x1, s8)))
def jl_30_3 (Q : Nat) (a0 : Int64) (a1 : Int64)  : Nat → Int → ev_St → Option ((Int) × ev_St)
  | 0 => fun _ _ => none
  | q + 1 => jb_30_3 Q a0 a1  (jl_30_3 Q a0 a1  q)
theorem jbt_30_3 (d : Nat) (hd : 2 ≤ d + 1) (Q : Nat) (a0 : Int64) (a1 : Int64)    (K3 : Int → ev_St → Option ((Int) × ev_St)) (hK3 : ∀ (x1 : Int) (hx1 : ev_rng x1), ∀ (s6 : ev_St) (w2 : List (Nat × Value)), ev_lk w2 0 = some (.long a0) → ev_lk w2 2 = some (.long a1) → ev_lk w2 4 = some (.int (Int32.ofInt x1)) → ev_w none (ev_Mof 30) d 3 w2 [] s6 (K3 x1 s6) ev_eI ev_rng) : ∀ (x1 : Int) (hx1 : ev_rng x1), ∀ (s6 : ev_St) (w2 : List (Nat × Value)), ev_lk w2 0 = some (.long a0) → ev_lk w2 2 = some (.long a1) → ev_lk w2 4 = some (.int (Int32.ofInt x1)) → ev_w none (ev_Mof 30) d 3 w2 [] s6 (jb_30_3 Q a0 a1  K3 x1 s6) ev_eI ev_rng := by
  intro x1 hx1 s6 w2 e3 e4 e5
  unfold jb_30_3
  refine ev_r_iload (pc := 3) (k := 4) (v := Int32.ofInt x1) (by decide +kernel) (by exact e5) ?_
  refine ev_r_sipush (pc := 5) (k := 128) (by decide +kernel) (by decide +kernel) ?_
  refine ev_r_icmp (pc := 8) (q := .ge) (o := 22) (t := 30) (c := 128 ≤ x1) (by decide +kernel) (ev_k_ge hx1 (by decide)) (by decide +kernel) ?_ ?_
  · intro c7
    refine ev_r_iconst (pc := 30) (k := -1) (by decide +kernel) ?_
    exact ev_r_ireturn (pc := 31) (x := (-1)) (v := Int32.ofInt ((-1))) (ty := .int) (by decide) (by decide +kernel) (by decide +kernel) rfl rfl
  · intro c7
    refine ev_r_lload_n (pc := 11) (k := 0) (v := a0) (by decide +kernel) (by exact e3) ?_
    refine ev_r_lload_n (pc := 12) (k := 2) (v := a1) (by decide +kernel) (by exact e4) ?_
    refine ev_r_iload (pc := 13) (k := 4) (v := Int32.ofInt x1) (by decide +kernel) (by exact e5) ?_
    refine ev_r_stat (pc := 15) (y := 111) (kind := 5) (mi := 214) (na := 3) (as := [.long a0, .long a1, .int (Int32.ofInt x1)]) (rest := []) (encc := ev_oI) (Q := ev_bl) (fun x S1 h => jt_214 d (by omega) Q a0 a1 x1 hx1 s6 x S1 h) (Or.inr (Or.inl rfl)) (by decide +kernel) (by decide +kernel) (by decide +kernel) (by decide +kernel) rfl (by (try simp only [ev_sum, ev_nv_cat]); first | done | rfl) ?_
    intro x9 s8 hx9
    replace hx9 := ev_bl_rng hx9
    show ev_w _ _ _ _ _ [.int (Int32.ofInt x9)] _ _ _ _
    refine ev_r_if (pc := 18) (q := .eq) (o := 6) (t := 24) (c := x9 = 0) (by decide +kernel) (ev_k_eq hx9 ev_rng0) (by decide +kernel) ?_ ?_
    · intro c10
      refine ev_r_iinc (pc := 24) (k := 4) (c := 1) (x := x1) (by decide +kernel) (by decide +kernel) (by exact e5) (fun _ => rfl) ?_
      intro x11 hx11
      refine ev_r_goto (pc := 27) (o := (-24)) (t := 3) (by decide +kernel) (by decide +kernel) ?_
      exact hK3 x11 hx11 s8 _ (by exact (ev_l1 e3 (by decide) (by decide))) (by exact (ev_l1 e4 (by decide) (by decide))) (by exact ev_lk_st1_self)
    · intro c10
      refine ev_r_iload (pc := 21) (k := 4) (v := Int32.ofInt x1) (by decide +kernel) (by exact e5) ?_
      exact ev_r_ireturn (pc := 23) (x := x1) (v := Int32.ofInt x1) (ty := .int) hx1 (by decide +kernel) (by decide +kernel) rfl rfl
theorem jlt_30_3 (d : Nat) (hd : 2 ≤ d + 1) (Q : Nat) (a0 : Int64) (a1 : Int64)    : ∀ q : Nat, ∀ (x1 : Int) (hx1 : ev_rng x1), ∀ (s6 : ev_St) (w2 : List (Nat × Value)), ev_lk w2 0 = some (.long a0) → ev_lk w2 2 = some (.long a1) → ev_lk w2 4 = some (.int (Int32.ofInt x1)) → ev_w none (ev_Mof 30) d 3 w2 [] s6 (jl_30_3 Q a0 a1  q x1 s6) ev_eI ev_rng := by
  intro q
  induction q with
  | zero =>
    intro x1 hx1 s6 w2 e3 e4 e5
    exact ev_w_none
  | succ q ih => exact jbt_30_3 d hd Q a0 a1    _ ih
/-- MendBench$Facts.lowest(JJ)I -/
def jm_30 (Q : Nat) (a0 : Int64) (a1 : Int64) (S : ev_St) : Option ((Int) × ev_St) := jl_30_3 Q a0 a1  Q 0 S
theorem jt_30 (d : Nat) (hd : 2 ≤ d) (Q : Nat) (a0 : Int64) (a1 : Int64)  (S : ev_St) (x : Int) (S' : ev_St) (hJ : jm_30 Q a0 a1 S = some (x, S')) : ev_Ref d 30 [.long a0, .long a1] S (ev_eI x) S' (ev_rng x) := by
  obtain ⟨d, rfl⟩ : ∃ e, d = e + 1 := ⟨d - 1, by omega⟩
  refine ev_ref_of (P := ev_rng) (lv := [(0, .long a0), (2, .long a1)]) (by decide +kernel) (by (try simp only [ev_sum, ev_nv_cat]); first | done | rfl) (by (try simp only [lv_args, ev_nv_cat]); first | done | rfl) ?_ x S' hJ
  unfold jm_30
  refine ev_r_iconst (pc := 0) (k := 0) (by decide +kernel) ?_
  refine ev_r_istore (pc := 1) (k := 4) (by decide +kernel) (by decide +kernel) rfl ?_
  exact jlt_30_3 d hd Q a0 a1    Q 0 (by decide) S _ (by exact (ev_l1 (by rfl) (by decide) (by decide))) (by exact (ev_l1 (by rfl) (by decide) (by decide))) (by exact ev_lk_st1_self)
/-- MendBench$Pattern.onlyRow(I)I -/
def jm_65 (Q : Nat) (k : Nat) (a0 : Int) (S : ev_St) : Option ((Int) × ev_St) := ev_bd (jm_59 Q k a0 S) fun x2 s1 => ev_jn (fun (x3 : Int) (s6 : ev_St) => ev_bd (jm_59 Q k x3 s6) fun x8 s7 => if x8 = 0 then (some ((-1), s7)) else (ev_if ((0 : Int) ≤ x3 ∧ x3 < (ev_aln ((k + 5)) : Int)) (ev_b (s7.1 ((k + 5)) (Int.toNat x3)) fun x10 => if 0 ≤ x10 then (some ((-1), s7)) else (some (x3, s7))))) fun K18 => if x2 = 0 then (K18 ((-1)) s1) else (ev_if ((0 : Int) ≤ a0 ∧ a0 < (ev_aln ((k + 4)) : Int)) (ev_b (s1.1 ((k + 4)) (Int.toNat a0)) fun x13 => K18 x13 s1))
theorem jt_65 (d : Nat) (hd : 2 ≤ d) (Q : Nat) (k : Nat) (a0 : Int) (hk : ev_isOb k 5 = true) (ha0 : ev_rng a0) (S : ev_St) (x : Int) (S' : ev_St) (hJ : jm_65 Q k a0 S = some (x, S')) : ev_Ref d 65 [.ref k, .int (Int32.ofInt a0)] S (ev_eI x) S' (ev_rng x) := by
  obtain ⟨d, rfl⟩ : ∃ e, d = e + 1 := ⟨d - 1, by omega⟩
  refine ev_ref_of (P := ev_rng) (lv := [(0, .ref k), (1, .int (Int32.ofInt a0))]) (by decide +kernel) (by (try simp only [ev_sum, ev_nv_cat]); first | done | rfl) (by (try simp only [lv_args, ev_nv_cat]); first | done | rfl) ?_ x S' hJ
  unfold jm_65
  refine ev_r_aload_n (pc := 0) (k := 0) (v := .ref k) trivial (by decide +kernel) (by rfl) ?_
  refine ev_r_iload_n (pc := 1) (k := 1) (v := Int32.ofInt a0) (by decide +kernel) (by rfl) ?_
  refine ev_r_virt (pc := 2) (y := 73) (mi := 59) (na := 1) (k := k) (as := [.int (Int32.ofInt a0)]) (rest := []) (encc := ev_oI) (Q := ev_bl) (fun x S1 h => jt_59 d (by omega) Q k a0 hk ha0 S x S1 h) (by exact hk) (by decide +kernel) (by decide +kernel) (by decide +kernel) (by decide +kernel) rfl (by (try simp only [ev_sum, ev_nv_cat]); first | done | rfl) ?_
  intro x2 s1 hx2
  replace hx2 := ev_bl_rng hx2
  show ev_w _ _ _ _ _ [.int (Int32.ofInt x2)] _ _ _ _
  refine ev_r_jn (Q := fun K => ∀ (x3 : Int) (hx3 : ev_rng x3), ∀ (s6 : ev_St) (w4 : List (Nat × Value)), ev_lk w4 0 = some (.ref k) → ev_w none (ev_Mof 65) d 18 w4 [.int (Int32.ofInt x3)] s6 (K x3 s6) ev_eI ev_rng) ?_ ?_
  · intro x3 hx3 s6 w4 e5
    refine ev_r_istore_n (pc := 18) (k := 2) (by decide +kernel) (by decide +kernel) rfl ?_
    refine ev_r_aload_n (pc := 19) (k := 0) (v := .ref k) trivial (by decide +kernel) (by exact (ev_l1 e5 (by decide) (by decide))) ?_
    refine ev_r_iload_n (pc := 20) (k := 2) (v := Int32.ofInt x3) (by decide +kernel) (by exact ev_lk_st1_self) ?_
    refine ev_r_virt (pc := 21) (y := 73) (mi := 59) (na := 1) (k := k) (as := [.int (Int32.ofInt x3)]) (rest := []) (encc := ev_oI) (Q := ev_bl) (fun x S1 h => jt_59 d (by omega) Q k x3 hk hx3 s6 x S1 h) (by exact hk) (by decide +kernel) (by decide +kernel) (by decide +kernel) (by decide +kernel) rfl (by (try simp only [ev_sum, ev_nv_cat]); first | done | rfl) ?_
    intro x8 s7 hx8
    replace hx8 := ev_bl_rng hx8
    show ev_w _ _ _ _ _ [.int (Int32.ofInt x8)] _ _ _ _
    refine ev_r_if (pc := 24) (q := .eq) (o := 16) (t := 40) (c := x8 = 0) (by decide +kernel) (ev_k_eq hx8 ev_rng0) (by decide +kernel) ?_ ?_
    · intro c9
      refine ev_r_iconst (pc := 40) (k := -1) (by decide +kernel) ?_
      exact ev_r_ireturn (pc := 41) (x := (-1)) (v := Int32.ofInt ((-1))) (ty := .int) (by decide) (by decide +kernel) (by decide +kernel) rfl rfl
    · intro c9
      refine ev_r_aload_n (pc := 27) (k := 0) (v := .ref k) trivial (by decide +kernel) (by exact (ev_l1 e5 (by decide) (by decide))) ?_
      refine ev_r_getC (pc := 28) (y := 24) (ci := 5) (f := 4) (fin := 1) (k' := (k + 5)) (by decide +kernel) (by decide +kernel) (by exact hk) rfl rfl ?_
      refine ev_r_iload_n (pc := 31) (k := 2) (v := Int32.ofInt x3) (by decide +kernel) (by exact ev_lk_st1_self) ?_
      refine ev_r_iald (pc := 32) hx3 (by decide +kernel) (by exact (ev_fo_5_4 hk)) ?_
      intro x10 hx10
      refine ev_r_if (pc := 33) (q := .ge) (o := 7) (t := 40) (c := 0 ≤ x10) (by decide +kernel) (ev_k_ge hx10 ev_rng0) (by decide +kernel) ?_ ?_
      · intro c11
        refine ev_r_iconst (pc := 40) (k := -1) (by decide +kernel) ?_
        exact ev_r_ireturn (pc := 41) (x := (-1)) (v := Int32.ofInt ((-1))) (ty := .int) (by decide) (by decide +kernel) (by decide +kernel) rfl rfl
      · intro c11
        refine ev_r_iload_n (pc := 36) (k := 2) (v := Int32.ofInt x3) (by decide +kernel) (by exact ev_lk_st1_self) ?_
        refine ev_r_goto (pc := 37) (o := 4) (t := 41) (by decide +kernel) (by decide +kernel) ?_
        exact ev_r_ireturn (pc := 41) (x := x3) (v := Int32.ofInt x3) (ty := .int) hx3 (by decide +kernel) (by decide +kernel) rfl rfl
  · intro K18 hK18
    refine ev_r_if (pc := 5) (q := .eq) (o := 12) (t := 17) (c := x2 = 0) (by decide +kernel) (ev_k_eq hx2 ev_rng0) (by decide +kernel) ?_ ?_
    · intro c12
      refine ev_r_iconst (pc := 17) (k := -1) (by decide +kernel) ?_
      exact hK18 ((-1)) (by decide) s1 _ (by rfl)
    · intro c12
      refine ev_r_aload_n (pc := 8) (k := 0) (v := .ref k) trivial (by decide +kernel) (by rfl) ?_
      refine ev_r_getC (pc := 9) (y := 21) (ci := 5) (f := 3) (fin := 1) (k' := (k + 4)) (by decide +kernel) (by decide +kernel) (by exact hk) rfl rfl ?_
      refine ev_r_iload_n (pc := 12) (k := 1) (v := Int32.ofInt a0) (by decide +kernel) (by rfl) ?_
      refine ev_r_iald (pc := 13) ha0 (by decide +kernel) (by exact (ev_fo_5_3 hk)) ?_
      intro x13 hx13
      refine ev_r_goto (pc := 14) (o := 4) (t := 18) (by decide +kernel) (by decide +kernel) ?_
      exact hK18 x13 hx13 s1 _ (by rfl)
/-- java/lang/Long.bitCount(J)I -/
def jm_362 (Q : Nat) (a0 : Int64) (S : ev_St) : Option ((Int) × ev_St) := ev_b (ev_lushr a0 1) fun y1 => ev_b (y1 &&& (6148914691236517205)) fun y2 => ev_b (a0 - y2) fun y3 => ev_b (y3 &&& (3689348814741910323)) fun y4 => ev_b (ev_lushr y3 2) fun y5 => ev_b (y5 &&& (3689348814741910323)) fun y6 => ev_b (y4 + y6) fun y7 => ev_b (ev_lushr y7 4) fun y8 => ev_b (y7 + y8) fun y9 => ev_b (y9 &&& (1085102592571150095)) fun y10 => ev_b (ev_lushr y10 8) fun y11 => ev_b (y10 + y11) fun y12 => ev_b (ev_lushr y12 16) fun y13 => ev_b (y12 + y13) fun y14 => ev_b (ev_lushr y14 32) fun y15 => ev_b (y14 + y15) fun y16 => ev_b (ev_l2i y16) fun x17 => ev_b (ev_iand x17 127) fun x18 => some (x18, S)
theorem jt_362 (d : Nat) (hd : 1 ≤ d) (Q : Nat) (a0 : Int64)  (S : ev_St) (x : Int) (S' : ev_St) (hJ : jm_362 Q a0 S = some (x, S')) : ev_Ref d 362 [.long a0] S (ev_eI x) S' (ev_rng x) := by
  obtain ⟨d, rfl⟩ : ∃ e, d = e + 1 := ⟨d - 1, by omega⟩
  refine ev_ref_of (P := ev_rng) (lv := [(0, .long a0)]) (by decide +kernel) (by (try simp only [ev_sum, ev_nv_cat]); first | done | rfl) (by (try simp only [lv_args, ev_nv_cat]); first | done | rfl) ?_ x S' hJ
  unfold jm_362
  refine ev_r_lload_n (pc := 0) (k := 0) (v := a0) (by decide +kernel) (by rfl) ?_
  refine ev_r_lload_n (pc := 1) (k := 0) (v := a0) (by decide +kernel) (by rfl) ?_
  refine ev_r_iconst (pc := 2) (k := 1) (by decide +kernel) ?_
  refine ev_r_toL (pc := 3) (i := .lushr) (len := 1) (pc' := 4) (by decide +kernel) rfl ?_
  intro y1
  refine ev_r_ldc2 (pc := 4) (y := 314) (k := 6148914691236517205) (by decide +kernel) (by decide +kernel) ?_
  refine ev_r_toL (pc := 7) (i := .land) (len := 1) (pc' := 8) (by decide +kernel) rfl ?_
  intro y2
  refine ev_r_toL (pc := 8) (i := .lsub) (len := 1) (pc' := 9) (by decide +kernel) rfl ?_
  intro y3
  refine ev_r_lstore_n (pc := 9) (k := 0) (by decide +kernel) (by decide +kernel) rfl ?_
  refine ev_r_lload_n (pc := 10) (k := 0) (v := y3) (by decide +kernel) (by exact ev_l2s) ?_
  refine ev_r_ldc2 (pc := 11) (y := 316) (k := 3689348814741910323) (by decide +kernel) (by decide +kernel) ?_
  refine ev_r_toL (pc := 14) (i := .land) (len := 1) (pc' := 15) (by decide +kernel) rfl ?_
  intro y4
  refine ev_r_lload_n (pc := 15) (k := 0) (v := y3) (by decide +kernel) (by exact ev_l2s) ?_
  refine ev_r_iconst (pc := 16) (k := 2) (by decide +kernel) ?_
  refine ev_r_toL (pc := 17) (i := .lushr) (len := 1) (pc' := 18) (by decide +kernel) rfl ?_
  intro y5
  refine ev_r_ldc2 (pc := 18) (y := 316) (k := 3689348814741910323) (by decide +kernel) (by decide +kernel) ?_
  refine ev_r_toL (pc := 21) (i := .land) (len := 1) (pc' := 22) (by decide +kernel) rfl ?_
  intro y6
  refine ev_r_toL (pc := 22) (i := .ladd) (len := 1) (pc' := 23) (by decide +kernel) rfl ?_
  intro y7
  refine ev_r_lstore_n (pc := 23) (k := 0) (by decide +kernel) (by decide +kernel) rfl ?_
  refine ev_r_lload_n (pc := 24) (k := 0) (v := y7) (by decide +kernel) (by exact ev_l2s) ?_
  refine ev_r_lload_n (pc := 25) (k := 0) (v := y7) (by decide +kernel) (by exact ev_l2s) ?_
  refine ev_r_iconst (pc := 26) (k := 4) (by decide +kernel) ?_
  refine ev_r_toL (pc := 27) (i := .lushr) (len := 1) (pc' := 28) (by decide +kernel) rfl ?_
  intro y8
  refine ev_r_toL (pc := 28) (i := .ladd) (len := 1) (pc' := 29) (by decide +kernel) rfl ?_
  intro y9
  refine ev_r_ldc2 (pc := 29) (y := 318) (k := 1085102592571150095) (by decide +kernel) (by decide +kernel) ?_
  refine ev_r_toL (pc := 32) (i := .land) (len := 1) (pc' := 33) (by decide +kernel) rfl ?_
  intro y10
  refine ev_r_lstore_n (pc := 33) (k := 0) (by decide +kernel) (by decide +kernel) rfl ?_
  refine ev_r_lload_n (pc := 34) (k := 0) (v := y10) (by decide +kernel) (by exact ev_l2s) ?_
  refine ev_r_lload_n (pc := 35) (k := 0) (v := y10) (by decide +kernel) (by exact ev_l2s) ?_
  refine ev_r_bipush (pc := 36) (k := 8) (by decide +kernel) (by decide +kernel) ?_
  refine ev_r_toL (pc := 38) (i := .lushr) (len := 1) (pc' := 39) (by decide +kernel) rfl ?_
  intro y11
  refine ev_r_toL (pc := 39) (i := .ladd) (len := 1) (pc' := 40) (by decide +kernel) rfl ?_
  intro y12
  refine ev_r_lstore_n (pc := 40) (k := 0) (by decide +kernel) (by decide +kernel) rfl ?_
  refine ev_r_lload_n (pc := 41) (k := 0) (v := y12) (by decide +kernel) (by exact ev_l2s) ?_
  refine ev_r_lload_n (pc := 42) (k := 0) (v := y12) (by decide +kernel) (by exact ev_l2s) ?_
  refine ev_r_bipush (pc := 43) (k := 16) (by decide +kernel) (by decide +kernel) ?_
  refine ev_r_toL (pc := 45) (i := .lushr) (len := 1) (pc' := 46) (by decide +kernel) rfl ?_
  intro y13
  refine ev_r_toL (pc := 46) (i := .ladd) (len := 1) (pc' := 47) (by decide +kernel) rfl ?_
  intro y14
  refine ev_r_lstore_n (pc := 47) (k := 0) (by decide +kernel) (by decide +kernel) rfl ?_
  refine ev_r_lload_n (pc := 48) (k := 0) (v := y14) (by decide +kernel) (by exact ev_l2s) ?_
  refine ev_r_lload_n (pc := 49) (k := 0) (v := y14) (by decide +kernel) (by exact ev_l2s) ?_
  refine ev_r_bipush (pc := 50) (k := 32) (by decide +kernel) (by decide +kernel) ?_
  refine ev_r_toL (pc := 52) (i := .lushr) (len := 1) (pc' := 53) (by decide +kernel) rfl ?_
  intro y15
  refine ev_r_toL (pc := 53) (i := .ladd) (len := 1) (pc' := 54) (by decide +kernel) rfl ?_
  intro y16
  refine ev_r_lstore_n (pc := 54) (k := 0) (by decide +kernel) (by decide +kernel) rfl ?_
  refine ev_r_lload_n (pc := 55) (k := 0) (v := y16) (by decide +kernel) (by exact ev_l2s) ?_
  refine ev_r_toI (pc := 56) (i := .l2i) (len := 1) (pc' := 57) (by decide +kernel) rfl ?_
  intro x17 hx17
  refine ev_r_bipush (pc := 57) (k := 127) (by decide +kernel) (by decide +kernel) ?_
  refine ev_r_iand (pc := 59) (by decide +kernel) ?_
  intro x18 hx18
  exact ev_r_ireturn (pc := 60) (x := x18) (v := Int32.ofInt x18) (ty := .int) hx18 (by decide +kernel) (by decide +kernel) rfl rfl
/-- MendBench$Pattern.isOneSign(I)Z -/
def jm_66 (Q : Nat) (k : Nat) (a0 : Int) (S : ev_St) : Option ((Int) × ev_St) := ev_bd (jm_59 Q k a0 S) fun x2 s1 => if x2 = 0 then (some (0, s1)) else (ev_if ((0 : Int) ≤ a0 ∧ a0 < (ev_aln ((k + 1)) : Int)) (ev_b (s1.1 ((k + 1)) (Int.toNat a0)) fun x4 => if x4 ≠ 0 then (some (0, s1)) else (ev_if ((0 : Int) ≤ a0 ∧ a0 < (ev_aln ((k + 8)) : Int)) (ev_b (s1.2.1 ((k + 8)) (Int.toNat a0)) fun y6 => ev_bd (jm_362 Q y6 s1) fun x8 s7 => ev_if ((0 : Int) ≤ a0 ∧ a0 < (ev_aln ((k + 9)) : Int)) (ev_b (s7.2.1 ((k + 9)) (Int.toNat a0)) fun y9 => ev_bd (jm_362 Q y9 s7) fun x11 s10 => ev_ck (x8 + x11) fun x12 => if x12 ≠ 1 then (some (0, s10)) else (some (1, s10)))))))
theorem jt_66 (d : Nat) (hd : 2 ≤ d) (Q : Nat) (k : Nat) (a0 : Int) (hk : ev_isOb k 5 = true) (ha0 : ev_rng a0) (S : ev_St) (x : Int) (S' : ev_St) (hJ : jm_66 Q k a0 S = some (x, S')) : ev_Ref d 66 [.ref k, .int (Int32.ofInt a0)] S (ev_eI x) S' (ev_bl x) := by
  obtain ⟨d, rfl⟩ : ∃ e, d = e + 1 := ⟨d - 1, by omega⟩
  refine ev_ref_of (P := ev_bl) (lv := [(0, .ref k), (1, .int (Int32.ofInt a0))]) (by decide +kernel) (by (try simp only [ev_sum, ev_nv_cat]); first | done | rfl) (by (try simp only [lv_args, ev_nv_cat]); first | done | rfl) ?_ x S' hJ
  unfold jm_66
  refine ev_r_aload_n (pc := 0) (k := 0) (v := .ref k) trivial (by decide +kernel) (by rfl) ?_
  refine ev_r_iload_n (pc := 1) (k := 1) (v := Int32.ofInt a0) (by decide +kernel) (by rfl) ?_
  refine ev_r_virt (pc := 2) (y := 73) (mi := 59) (na := 1) (k := k) (as := [.int (Int32.ofInt a0)]) (rest := []) (encc := ev_oI) (Q := ev_bl) (fun x S1 h => jt_59 d (by omega) Q k a0 hk ha0 S x S1 h) (by exact hk) (by decide +kernel) (by decide +kernel) (by decide +kernel) (by decide +kernel) rfl (by (try simp only [ev_sum, ev_nv_cat]); first | done | rfl) ?_
  intro x2 s1 hx2
  replace hx2 := ev_bl_rng hx2
  show ev_w _ _ _ _ _ [.int (Int32.ofInt x2)] _ _ _ _
  refine ev_r_if (pc := 5) (q := .eq) (o := 39) (t := 44) (c := x2 = 0) (by decide +kernel) (ev_k_eq hx2 ev_rng0) (by decide +kernel) ?_ ?_
  · intro c3
    refine ev_r_iconst (pc := 44) (k := 0) (by decide +kernel) ?_
    exact ev_r_ireturn (pc := 45) (x := 0) (v := Int32.ofInt 0) (ty := .boolean) (by decide : ev_bl 0) (by decide +kernel) (by decide +kernel) (ev_ret_bl (by decide : ev_bl 0)) rfl
  · intro c3
    refine ev_r_aload_n (pc := 8) (k := 0) (v := .ref k) trivial (by decide +kernel) (by rfl) ?_
    refine ev_r_getC (pc := 9) (y := 11) (ci := 5) (f := 0) (fin := 1) (k' := (k + 1)) (by decide +kernel) (by decide +kernel) (by exact hk) rfl rfl ?_
    refine ev_r_iload_n (pc := 12) (k := 1) (v := Int32.ofInt a0) (by decide +kernel) (by rfl) ?_
    refine ev_r_iald (pc := 13) ha0 (by decide +kernel) (by exact (ev_fo_5_0 hk)) ?_
    intro x4 hx4
    refine ev_r_if (pc := 14) (q := .ne) (o := 30) (t := 44) (c := x4 ≠ 0) (by decide +kernel) (ev_k_ne hx4 ev_rng0) (by decide +kernel) ?_ ?_
    · intro c5
      refine ev_r_iconst (pc := 44) (k := 0) (by decide +kernel) ?_
      exact ev_r_ireturn (pc := 45) (x := 0) (v := Int32.ofInt 0) (ty := .boolean) (by decide : ev_bl 0) (by decide +kernel) (by decide +kernel) (ev_ret_bl (by decide : ev_bl 0)) rfl
    · intro c5
      refine ev_r_aload_n (pc := 17) (k := 0) (v := .ref k) trivial (by decide +kernel) (by rfl) ?_
      refine ev_r_getC (pc := 18) (y := 33) (ci := 5) (f := 7) (fin := 1) (k' := (k + 8)) (by decide +kernel) (by decide +kernel) (by exact hk) rfl rfl ?_
      refine ev_r_iload_n (pc := 21) (k := 1) (v := Int32.ofInt a0) (by decide +kernel) (by rfl) ?_
      refine ev_r_lald (pc := 22) ha0 (by decide +kernel) (by exact (ev_fo_5_7 hk)) ?_
      intro y6
      refine ev_r_stat (pc := 23) (y := 77) (kind := 2) (mi := 362) (na := 1) (as := [.long y6]) (rest := []) (encc := ev_oI) (Q := ev_rng) (fun x S1 h => jt_362 d (by omega) Q y6  s1 x S1 h) (Or.inl rfl) (by decide +kernel) (by decide +kernel) (by decide +kernel) (by decide +kernel) rfl (by (try simp only [ev_sum, ev_nv_cat]); first | done | rfl) ?_
      intro x8 s7 hx8
      show ev_w _ _ _ _ _ [.int (Int32.ofInt x8)] _ _ _ _
      refine ev_r_aload_n (pc := 26) (k := 0) (v := .ref k) trivial (by decide +kernel) (by rfl) ?_
      refine ev_r_getC (pc := 27) (y := 37) (ci := 5) (f := 8) (fin := 1) (k' := (k + 9)) (by decide +kernel) (by decide +kernel) (by exact hk) rfl rfl ?_
      refine ev_r_iload_n (pc := 30) (k := 1) (v := Int32.ofInt a0) (by decide +kernel) (by rfl) ?_
      refine ev_r_lald (pc := 31) ha0 (by decide +kernel) (by exact (ev_fo_5_8 hk)) ?_
      intro y9
      refine ev_r_stat (pc := 32) (y := 77) (kind := 2) (mi := 362) (na := 1) (as := [.long y9]) (rest := [.int (Int32.ofInt x8)]) (encc := ev_oI) (Q := ev_rng) (fun x S1 h => jt_362 d (by omega) Q y9  s7 x S1 h) (Or.inl rfl) (by decide +kernel) (by decide +kernel) (by decide +kernel) (by decide +kernel) rfl (by (try simp only [ev_sum, ev_nv_cat]); first | done | rfl) ?_
      intro x11 s10 hx11
      show ev_w _ _ _ _ _ [.int (Int32.ofInt x11), .int (Int32.ofInt x8)] _ _ _ _
      refine ev_r_iadd (pc := 35) (by decide +kernel) ?_
      intro x12 hx12
      refine ev_r_iconst (pc := 36) (k := 1) (by decide +kernel) ?_
      refine ev_r_icmp (pc := 37) (q := .ne) (o := 7) (t := 44) (c := x12 ≠ 1) (by decide +kernel) (ev_k_ne hx12 (by decide)) (by decide +kernel) ?_ ?_
      · intro c13
        refine ev_r_iconst (pc := 44) (k := 0) (by decide +kernel) ?_
        exact ev_r_ireturn (pc := 45) (x := 0) (v := Int32.ofInt 0) (ty := .boolean) (by decide : ev_bl 0) (by decide +kernel) (by decide +kernel) (ev_ret_bl (by decide : ev_bl 0)) rfl
      · intro c13
        refine ev_r_iconst (pc := 40) (k := 1) (by decide +kernel) ?_
        refine ev_r_goto (pc := 41) (o := 4) (t := 45) (by decide +kernel) (by decide +kernel) ?_
        exact ev_r_ireturn (pc := 45) (x := 1) (v := Int32.ofInt 1) (ty := .boolean) (by decide : ev_bl 1) (by decide +kernel) (by decide +kernel) (ev_ret_bl (by decide : ev_bl 1)) rfl
/-- MendBench$Text.add(I)V -/
def jm_152 (Q : Nat) (k : Nat) (a0 : Int) (S : ev_St) : Option ((Unit) × ev_St) := ev_b (S.1 k 1) fun x1 => if x1 < 0 then (some ((), S)) else (ev_b (S.1 k 1) fun x3 => if 160 ≤ x3 then (some ((), S)) else (ev_b (S.1 k 1) fun x5 => ev_if ((0 : Int) ≤ x5 ∧ x5 < (ev_aln ((k + 1)) : Int)) (ev_b (ev_pI S ((k + 1)) (Int.toNat x5) a0) fun s6 => ev_b (s6.1 k 1) fun x7 => ev_ck (x7 + 1) fun x8 => ev_b (ev_pI s6 k 1 x8) fun s9 => some ((), s9))))
theorem jt_152 (d : Nat) (hd : 1 ≤ d) (Q : Nat) (k : Nat) (a0 : Int) (hk : ev_isOb k 10 = true) (ha0 : ev_rng a0) (S : ev_St) (x : Unit) (S' : ev_St) (hJ : jm_152 Q k a0 S = some (x, S')) : ev_Ref d 152 [.ref k, .int (Int32.ofInt a0)] S (ev_eU x) S' (ev_PU x) := by
  obtain ⟨d, rfl⟩ : ∃ e, d = e + 1 := ⟨d - 1, by omega⟩
  refine ev_ref_of (P := ev_PU) (lv := [(0, .ref k), (1, .int (Int32.ofInt a0))]) (by decide +kernel) (by (try simp only [ev_sum, ev_nv_cat]); first | done | rfl) (by (try simp only [lv_args, ev_nv_cat]); first | done | rfl) ?_ x S' hJ
  unfold jm_152
  refine ev_r_aload_n (pc := 0) (k := 0) (v := .ref k) trivial (by decide +kernel) (by rfl) ?_
  refine ev_r_getI (pc := 1) (y := 15) (ci := 10) (f := 1) (fin := 0) (by decide +kernel) (by decide +kernel) (by exact hk) rfl ?_
  intro x1 hx1
  refine ev_r_if (pc := 4) (q := .lt) (o := 33) (t := 37) (c := x1 < 0) (by decide +kernel) (ev_k_lt hx1 ev_rng0) (by decide +kernel) ?_ ?_
  · intro c2
    exact ev_r_return (pc := 37) (x := ()) trivial (by decide +kernel) (by decide +kernel) rfl
  · intro c2
    refine ev_r_aload_n (pc := 7) (k := 0) (v := .ref k) trivial (by decide +kernel) (by rfl) ?_
    refine ev_r_getI (pc := 8) (y := 15) (ci := 10) (f := 1) (fin := 0) (by decide +kernel) (by decide +kernel) (by exact hk) rfl ?_
    intro x3 hx3
    refine ev_r_sipush (pc := 11) (k := 160) (by decide +kernel) (by decide +kernel) ?_
    refine ev_r_icmp (pc := 14) (q := .ge) (o := 23) (t := 37) (c := 160 ≤ x3) (by decide +kernel) (ev_k_ge hx3 (by decide)) (by decide +kernel) ?_ ?_
    · intro c4
      exact ev_r_return (pc := 37) (x := ()) trivial (by decide +kernel) (by decide +kernel) rfl
    · intro c4
      refine ev_r_aload_n (pc := 17) (k := 0) (v := .ref k) trivial (by decide +kernel) (by rfl) ?_
      refine ev_r_getC (pc := 18) (y := 11) (ci := 10) (f := 0) (fin := 1) (k' := (k + 1)) (by decide +kernel) (by decide +kernel) (by exact hk) rfl rfl ?_
      refine ev_r_aload_n (pc := 21) (k := 0) (v := .ref k) trivial (by decide +kernel) (by rfl) ?_
      refine ev_r_getI (pc := 22) (y := 15) (ci := 10) (f := 1) (fin := 0) (by decide +kernel) (by decide +kernel) (by exact hk) rfl ?_
      intro x5 hx5
      refine ev_r_iload_n (pc := 25) (k := 1) (v := Int32.ofInt a0) (by decide +kernel) (by rfl) ?_
      refine ev_r_iast (pc := 26) ha0 hx5 (by decide +kernel) (by exact (ev_fo_10_0 hk)) ?_
      intro s6
      refine ev_r_aload_n (pc := 27) (k := 0) (v := .ref k) trivial (by decide +kernel) (by rfl) ?_
      refine ev_r_dup (pc := 28) rfl (by decide +kernel) ?_
      refine ev_r_getI (pc := 29) (y := 15) (ci := 10) (f := 1) (fin := 0) (by decide +kernel) (by decide +kernel) (by exact hk) rfl ?_
      intro x7 hx7
      refine ev_r_iconst (pc := 32) (k := 1) (by decide +kernel) ?_
      refine ev_r_iadd (pc := 33) (by decide +kernel) ?_
      intro x8 hx8
      refine ev_r_putI (pc := 34) (y := 15) (ci := 10) (f := 1) hx8 (by decide +kernel) (by decide +kernel) (by exact hk) rfl rfl ?_
      intro s9
      exact ev_r_return (pc := 37) (x := ()) trivial (by decide +kernel) (by decide +kernel) rfl
/-- MendBench$Text.copy(LMendBench$Text;)V -/
def jm_153 (Q : Nat) (k : Nat) (a0 : Nat) (S : ev_St) : Option ((Unit) × ev_St) := ev_if (a0 ≠ 0) (ev_if ((0 : Int) ≤ 0 ∧ (0 : Int) ≤ 0 ∧ (0 : Int) ≤ 160 ∧ 0 + 160 ≤ (ev_aln (((a0 - 1) + 1)) : Int) ∧ 0 + 160 ≤ (ev_aln ((k + 1)) : Int)) (ev_b (ev_cpI S (((a0 - 1) + 1)) ((k + 1)) (Int.toNat 0) (Int.toNat 0) (Int.toNat 160)) fun s2 => ev_if (a0 ≠ 0) (ev_b (s2.1 ((a0 - 1)) 1) fun x4 => ev_b (ev_pI s2 k 1 x4) fun s5 => some ((), s5))))
theorem jt_153 (d : Nat) (hd : 1 ≤ d) (Q : Nat) (k : Nat) (a0 : Nat) (hk : ev_isOb k 10 = true) (ha0 : a0 = 0 ∨ ev_isOb (a0 - 1) 10 = true) (S : ev_St) (x : Unit) (S' : ev_St) (hJ : jm_153 Q k a0 S = some (x, S')) : ev_Ref d 153 [.ref k, ev_nv a0] S (ev_eU x) S' (ev_PU x) := by
  obtain ⟨d, rfl⟩ : ∃ e, d = e + 1 := ⟨d - 1, by omega⟩
  refine ev_ref_of (P := ev_PU) (lv := [(0, .ref k), (1, ev_nv a0)]) (by decide +kernel) (by (try simp only [ev_sum, ev_nv_cat]); first | done | rfl) (by (try simp only [lv_args, ev_nv_cat]); first | done | rfl) ?_ x S' hJ
  unfold jm_153
  refine ev_r_aload_n (pc := 0) (k := 1) (v := ev_nv a0) (ev_isR_nv _) (by decide +kernel) (by rfl) ?_
  refine ev_r_chk ?_
  intro c1
  refine ev_r_dr (r := a0) (fun v => [v]) c1 ?_
  refine ev_r_getC (pc := 1) (y := 11) (ci := 10) (f := 0) (fin := 1) (k' := ((a0 - 1) + 1)) (by decide +kernel) (by decide +kernel) (by exact (ha0.resolve_left c1)) rfl rfl ?_
  refine ev_r_iconst (pc := 4) (k := 0) (by decide +kernel) ?_
  refine ev_r_aload_n (pc := 5) (k := 0) (v := .ref k) trivial (by decide +kernel) (by rfl) ?_
  refine ev_r_getC (pc := 6) (y := 11) (ci := 10) (f := 0) (fin := 1) (k' := (k + 1)) (by decide +kernel) (by decide +kernel) (by exact hk) rfl rfl ?_
  refine ev_r_iconst (pc := 9) (k := 0) (by decide +kernel) ?_
  refine ev_r_sipush (pc := 10) (k := 160) (by decide +kernel) (by decide +kernel) ?_
  refine ev_r_copyI (pc := 13) (y := 19) ⟨(by decide), (by decide), (by decide)⟩ (by decide +kernel) (by decide +kernel) (by (try simp only [ev_sum, ev_nv_cat]); first | done | rfl) (by exact (ev_fo_10_0 (ha0.resolve_left c1))) (by exact (ev_fo_10_0 hk)) ?_
  intro s2
  refine ev_r_aload_n (pc := 16) (k := 0) (v := .ref k) trivial (by decide +kernel) (by rfl) ?_
  refine ev_r_aload_n (pc := 17) (k := 1) (v := ev_nv a0) (ev_isR_nv _) (by decide +kernel) (by rfl) ?_
  refine ev_r_chk ?_
  intro c3
  refine ev_r_dr (r := a0) (fun v => [v, .ref k]) c3 ?_
  refine ev_r_getI (pc := 18) (y := 15) (ci := 10) (f := 1) (fin := 0) (by decide +kernel) (by decide +kernel) (by exact (ha0.resolve_left c3)) rfl ?_
  intro x4 hx4
  refine ev_r_putI (pc := 21) (y := 15) (ci := 10) (f := 1) hx4 (by decide +kernel) (by decide +kernel) (by exact hk) rfl rfl ?_
  intro s5
  exact ev_r_return (pc := 24) (x := ()) trivial (by decide +kernel) (by decide +kernel) rfl
/-- MendBench$Facts.keepLonger()V -/
def jm_41 (Q : Nat)  (S : ev_St) : Option ((Unit) × ev_St) := ev_b (S.1 230 1) fun x1 => ev_b (S.2.2.1 221 9) fun r2 => ev_if (r2 ≠ 0) (ev_b (S.1 (((r2 - 1) + 18)) 1) fun x4 => if x1 ≤ x4 then (ev_b (ev_pI S 230 1 0) fun s6 => some ((), s6)) else (ev_b (S.2.2.1 221 9) fun r7 => ev_if (r7 ≠ 0) (ev_bd (jm_153 Q (((r7 - 1) + 18)) ((230 + 1)) S) fun _ s9 => ev_b (ev_pI s9 230 1 0) fun s10 => some ((), s10))))
theorem jt_41 (d : Nat) (hd : 2 ≤ d) (Q : Nat)   (S : ev_St) (x : Unit) (S' : ev_St) (hJ : jm_41 Q  S = some (x, S')) : ev_Ref d 41 [.ref 221] S (ev_eU x) S' (ev_PU x) := by
  obtain ⟨d, rfl⟩ : ∃ e, d = e + 1 := ⟨d - 1, by omega⟩
  refine ev_ref_of (P := ev_PU) (lv := [(0, .ref 221)]) (by decide +kernel) (by (try simp only [ev_sum, ev_nv_cat]); first | done | rfl) (by (try simp only [lv_args, ev_nv_cat]); first | done | rfl) ?_ x S' hJ
  unfold jm_41
  refine ev_r_aload_n (pc := 0) (k := 0) (v := .ref 221) trivial (by decide +kernel) (by rfl) ?_
  refine ev_r_getC (pc := 1) (y := 43) (ci := 2) (f := 8) (fin := 1) (k' := 230) (by decide +kernel) (by decide +kernel) (by exact ev_ob_221) rfl rfl ?_
  refine ev_r_getI (pc := 4) (y := 183) (ci := 10) (f := 1) (fin := 0) (by decide +kernel) (by decide +kernel) (by exact ev_ob_230) rfl ?_
  intro x1 hx1
  refine ev_r_aload_n (pc := 7) (k := 0) (v := .ref 221) trivial (by decide +kernel) (by rfl) ?_
  refine ev_r_getR (pc := 8) (y := 47) (ci := 2) (f := 9) (fin := 0) (t := 5) (by decide +kernel) (by decide +kernel) (by exact ev_ob_221) rfl rfl ?_
  intro r2 hr2
  have hr2 : r2 = 0 ∨ ev_isOb (r2 - 1) 5 = true := hr2
  refine ev_r_chk ?_
  intro c3
  refine ev_r_dr (r := r2) (fun v => [v, .int (Int32.ofInt x1)]) c3 ?_
  refine ev_r_getC (pc := 11) (y := 180) (ci := 5) (f := 20) (fin := 2) (k' := ((r2 - 1) + 18)) (by decide +kernel) (by decide +kernel) (by exact (hr2.resolve_left c3)) rfl rfl ?_
  refine ev_r_getI (pc := 14) (y := 183) (ci := 10) (f := 1) (fin := 0) (by decide +kernel) (by decide +kernel) (by exact (ev_fo_5_20 (hr2.resolve_left c3))) rfl ?_
  intro x4 hx4
  refine ev_r_icmp (pc := 17) (q := .le) (o := 17) (t := 34) (c := x1 ≤ x4) (by decide +kernel) (ev_k_le hx1 hx4) (by decide +kernel) ?_ ?_
  · intro c5
    refine ev_r_aload_n (pc := 34) (k := 0) (v := .ref 221) trivial (by decide +kernel) (by rfl) ?_
    refine ev_r_getC (pc := 35) (y := 43) (ci := 2) (f := 8) (fin := 1) (k' := 230) (by decide +kernel) (by decide +kernel) (by exact ev_ob_221) rfl rfl ?_
    refine ev_r_iconst (pc := 38) (k := 0) (by decide +kernel) ?_
    refine ev_r_putI (pc := 39) (y := 183) (ci := 10) (f := 1) (by decide) (by decide +kernel) (by decide +kernel) (by exact ev_ob_230) rfl rfl ?_
    intro s6
    exact ev_r_return (pc := 42) (x := ()) trivial (by decide +kernel) (by decide +kernel) rfl
  · intro c5
    refine ev_r_aload_n (pc := 20) (k := 0) (v := .ref 221) trivial (by decide +kernel) (by rfl) ?_
    refine ev_r_getR (pc := 21) (y := 47) (ci := 2) (f := 9) (fin := 0) (t := 5) (by decide +kernel) (by decide +kernel) (by exact ev_ob_221) rfl rfl ?_
    intro r7 hr7
    have hr7 : r7 = 0 ∨ ev_isOb (r7 - 1) 5 = true := hr7
    refine ev_r_chk ?_
    intro c8
    refine ev_r_dr (r := r7) (fun v => [v]) c8 ?_
    refine ev_r_getC (pc := 24) (y := 180) (ci := 5) (f := 20) (fin := 2) (k' := ((r7 - 1) + 18)) (by decide +kernel) (by decide +kernel) (by exact (hr7.resolve_left c8)) rfl rfl ?_
    refine ev_r_aload_n (pc := 27) (k := 0) (v := .ref 221) trivial (by decide +kernel) (by rfl) ?_
    refine ev_r_getC (pc := 28) (y := 43) (ci := 2) (f := 8) (fin := 1) (k' := 230) (by decide +kernel) (by decide +kernel) (by exact ev_ob_221) rfl rfl ?_
    refine ev_r_virt (pc := 31) (y := 203) (mi := 153) (na := 1) (k := ((r7 - 1) + 18)) (as := [ev_nv ((230 + 1))]) (rest := []) (encc := ev_oU) (Q := ev_PU) (fun x S1 h => jt_153 d (by omega) Q (((r7 - 1) + 18)) ((230 + 1)) (ev_fo_5_20 (hr7.resolve_left c8)) (by exact (Or.inr ev_ob_230)) S x S1 h) (by exact (ev_fo_5_20 (hr7.resolve_left c8))) (by decide +kernel) (by decide +kernel) (by decide +kernel) (by decide +kernel) rfl (by (try simp only [ev_sum, ev_nv_cat]); first | done | rfl) ?_
    intro _ s9 _
    show ev_w _ _ _ _ _ [] _ _ _ _
    refine ev_r_aload_n (pc := 34) (k := 0) (v := .ref 221) trivial (by decide +kernel) (by rfl) ?_
    refine ev_r_getC (pc := 35) (y := 43) (ci := 2) (f := 8) (fin := 1) (k' := 230) (by decide +kernel) (by decide +kernel) (by exact ev_ob_221) rfl rfl ?_
    refine ev_r_iconst (pc := 38) (k := 0) (by decide +kernel) ?_
    refine ev_r_putI (pc := 39) (y := 183) (ci := 10) (f := 1) (by decide) (by decide +kernel) (by decide +kernel) (by exact ev_ob_230) rfl rfl ?_
    intro s10
    exact ev_r_return (pc := 42) (x := ()) trivial (by decide +kernel) (by decide +kernel) rfl
def jb_40_61 (Q : Nat)   (K61 : Int → Int → ev_St → Option ((Unit) × ev_St)) (x21 : Int) (x22 : Int) (s27 : ev_St) : Option ((Unit) × ev_St) := ev_jn (fun  (s30 : ev_St) => ev_bd (jm_41 Q  s30) fun _ s31 => some ((), s31)) fun K243 => if 1600 ≤ x22 then (K243  s27) else (ev_b (s27.2.2.1 221 9) fun r33 => ev_b (ev_ishr x21 2) fun x34 => ev_if (r33 ≠ 0) (ev_bd (jm_59 Q ((r33 - 1)) x34 s27) fun x37 s36 => if x37 = 0 then (K243  s36) else (ev_b (ev_ishr x21 2) fun x39 => ev_b (s36.2.2.1 221 9) fun r40 => ev_if (r40 ≠ 0) (ev_if ((0 : Int) ≤ x39 ∧ x39 < (ev_aln (((r40 - 1) + 1)) : Int)) (ev_b (s36.1 (((r40 - 1) + 1)) (Int.toNat x39)) fun x42 => ev_b (ev_iand x21 3) fun x43 => ev_jn (fun (x44 : Int) (x45 : Int) (x46 : Int) (s52 : ev_St) => ev_jn (fun (x53 : Int) (x54 : Int) (s60 : ev_St) => ev_jn (fun (x61 : Int) (x62 : Int) (s69 : ev_St) => ev_b (s69.2.2.1 221 9) fun r70 => ev_if (r70 ≠ 0) (ev_bd (jm_66 Q ((r70 - 1)) x44 s69) fun x73 s72 => ev_jn (fun (x74 : Int) (s79 : ev_St) => ev_ck (x22 + 1) fun x80 => K61 x74 x80 s79) fun K237 => if x73 = 0 then (if x53 = 0 then (K237 x62 s72) else (if x61 ≠ 0 then (K237 x62 s72) else (ev_bd (jm_41 Q  s72) fun _ s84 => K237 x62 s84))) else (ev_b (s72.2.2.1 221 9) fun r85 => ev_if (r85 ≠ 0) (ev_if ((0 : Int) ≤ x44 ∧ x44 < (ev_aln (((r85 - 1) + 8)) : Int)) (ev_b (s72.2.1 (((r85 - 1) + 8)) (Int.toNat x44)) fun y87 => ev_b (s72.2.2.1 221 9) fun r88 => ev_if (r88 ≠ 0) (ev_if ((0 : Int) ≤ x44 ∧ x44 < (ev_aln (((r88 - 1) + 9)) : Int)) (ev_b (s72.2.1 (((r88 - 1) + 9)) (Int.toNat x44)) fun y90 => ev_bd (jm_30 Q y87 y90 s72) fun x92 s91 => ev_bd (jm_152 Q 230 x92 s91) fun _ s93 => K237 x62 s93))))))) fun K177 => ev_jn (fun (x94 : Int) (s101 : ev_St) => ev_b (s101.2.2.1 221 9) fun r102 => ev_if (r102 ≠ 0) (ev_if ((0 : Int) ≤ x44 ∧ x44 < (ev_aln (((r102 - 1) + 7)) : Int)) (ev_b (s101.1 (((r102 - 1) + 7)) (Int.toNat x44)) fun x104 => K177 x94 x104 s101))) fun K167 => if x53 = 0 then (K167 x54 s60) else (if x54 = 0 then (K167 x54 s60) else (ev_b (s60.2.2.1 221 9) fun r107 => ev_if (r107 ≠ 0) (ev_if ((0 : Int) ≤ x44 ∧ x44 < (ev_aln (((r107 - 1) + 6)) : Int)) (ev_b (s60.1 (((r107 - 1) + 6)) (Int.toNat x44)) fun x109 => K177 x54 x109 s60))))) fun K142 => ev_jn (fun (x110 : Int) (s116 : ev_St) => K142 x110 0 s116) fun K141 => if x45 < 17 then (K141 x46 s52) else (if 19 < x45 then (K141 x46 s52) else (ev_b (s52.2.2.1 221 9) fun r119 => ev_if (r119 ≠ 0) (ev_bd (jm_65 Q ((r119 - 1)) x44 s52) fun x122 s121 => if x122 < 0 then (K141 x46 s121) else (K142 x46 1 s121))))) fun K109 => if x43 ≠ 0 then (K109 x39 x42 0 s36) else (K109 x39 x42 1 s36))))))
def jl_40_61 (Q : Nat)   : Nat → Int → Int → ev_St → Option ((Unit) × ev_St)
  | 0 => fun _ _ _ => none
  | q + 1 => jb_40_61 Q   (jl_40_61 Q   q)
theorem jbt_40_61 (d : Nat) (hd : 3 ≤ d + 1) (Q : Nat)     (K61 : Int → Int → ev_St → Option ((Unit) × ev_St)) (hK61 : ∀ (x21 : Int) (hx21 : ev_rng x21), ∀ (x22 : Int) (hx22 : ev_rng x22), ∀ (s27 : ev_St) (w23 : List (Nat × Value)), ev_lk w23 0 = some (.ref 221) → ev_lk w23 2 = some (.int (Int32.ofInt x21)) → ev_lk w23 3 = some (.int (Int32.ofInt x22)) → ev_w none (ev_Mof 40) d 61 w23 [] s27 (K61 x21 x22 s27) ev_eU ev_PU) : ∀ (x21 : Int) (hx21 : ev_rng x21), ∀ (x22 : Int) (hx22 : ev_rng x22), ∀ (s27 : ev_St) (w23 : List (Nat × Value)), ev_lk w23 0 = some (.ref 221) → ev_lk w23 2 = some (.int (Int32.ofInt x21)) → ev_lk w23 3 = some (.int (Int32.ofInt x22)) → ev_w none (ev_Mof 40) d 61 w23 [] s27 (jb_40_61 Q   K61 x21 x22 s27) ev_eU ev_PU := by
  intro x21 hx21 x22 hx22 s27 w23 e24 e25 e26
  unfold jb_40_61
  refine ev_r_iload_n (pc := 61) (k := 3) (v := Int32.ofInt x22) (by decide +kernel) (by exact e26) ?_
  refine ev_r_sipush (pc := 62) (k := 1600) (by decide +kernel) (by decide +kernel) ?_
  refine ev_r_jn (Q := fun K => ∀ (s30 : ev_St) (w28 : List (Nat × Value)), ev_lk w28 0 = some (.ref 221) → ev_w none (ev_Mof 40) d 243 w28 [] s30 (K  s30) ev_eU ev_PU) ?_ ?_
  · intro  s30 w28 e29
    refine ev_r_aload_n (pc := 243) (k := 0) (v := .ref 221) trivial (by decide +kernel) (by exact e29) ?_
    refine ev_r_virt (pc := 244) (y := 200) (mi := 41) (na := 0) (k := 221) (as := []) (rest := []) (encc := ev_oU) (Q := ev_PU) (fun x S1 h => jt_41 d (by omega) Q   s30 x S1 h) (by exact ev_ob_221) (by decide +kernel) (by decide +kernel) (by decide +kernel) (by decide +kernel) rfl (by (try simp only [ev_sum, ev_nv_cat]); first | done | rfl) ?_
    intro _ s31 _
    show ev_w _ _ _ _ _ [] _ _ _ _
    exact ev_r_return (pc := 247) (x := ()) trivial (by decide +kernel) (by decide +kernel) rfl
  · intro K243 hK243
    refine ev_r_icmp (pc := 65) (q := .ge) (o := 178) (t := 243) (c := 1600 ≤ x22) (by decide +kernel) (ev_k_ge hx22 (by decide)) (by decide +kernel) ?_ ?_
    · intro c32
      exact hK243  s27 _ (by exact e24)
    · intro c32
      refine ev_r_aload_n (pc := 68) (k := 0) (v := .ref 221) trivial (by decide +kernel) (by exact e24) ?_
      refine ev_r_getR (pc := 69) (y := 47) (ci := 2) (f := 9) (fin := 0) (t := 5) (by decide +kernel) (by decide +kernel) (by exact ev_ob_221) rfl rfl ?_
      intro r33 hr33
      have hr33 : r33 = 0 ∨ ev_isOb (r33 - 1) 5 = true := hr33
      refine ev_r_iload_n (pc := 72) (k := 2) (v := Int32.ofInt x21) (by decide +kernel) (by exact e25) ?_
      refine ev_r_iconst (pc := 73) (k := 2) (by decide +kernel) ?_
      refine ev_r_ishr (pc := 74) (by decide +kernel) ?_
      intro x34 hx34
      refine ev_r_chk ?_
      intro c35
      refine ev_r_dr (r := r33) (fun v => [.int (Int32.ofInt x34), v]) c35 ?_
      refine ev_r_virt (pc := 75) (y := 63) (mi := 59) (na := 1) (k := (r33 - 1)) (as := [.int (Int32.ofInt x34)]) (rest := []) (encc := ev_oI) (Q := ev_bl) (fun x S1 h => jt_59 d (by omega) Q ((r33 - 1)) x34 (hr33.resolve_left c35) hx34 s27 x S1 h) (by exact (hr33.resolve_left c35)) (by decide +kernel) (by decide +kernel) (by decide +kernel) (by decide +kernel) rfl (by (try simp only [ev_sum, ev_nv_cat]); first | done | rfl) ?_
      intro x37 s36 hx37
      replace hx37 := ev_bl_rng hx37
      show ev_w _ _ _ _ _ [.int (Int32.ofInt x37)] _ _ _ _
      refine ev_r_if (pc := 78) (q := .eq) (o := 165) (t := 243) (c := x37 = 0) (by decide +kernel) (ev_k_eq hx37 ev_rng0) (by decide +kernel) ?_ ?_
      · intro c38
        exact hK243  s36 _ (by exact e24)
      · intro c38
        refine ev_r_iload_n (pc := 81) (k := 2) (v := Int32.ofInt x21) (by decide +kernel) (by exact e25) ?_
        refine ev_r_iconst (pc := 82) (k := 2) (by decide +kernel) ?_
        refine ev_r_ishr (pc := 83) (by decide +kernel) ?_
        intro x39 hx39
        refine ev_r_istore (pc := 84) (k := 4) (by decide +kernel) (by decide +kernel) rfl ?_
        refine ev_r_aload_n (pc := 86) (k := 0) (v := .ref 221) trivial (by decide +kernel) (by exact (ev_l1 e24 (by decide) (by decide))) ?_
        refine ev_r_getR (pc := 87) (y := 47) (ci := 2) (f := 9) (fin := 0) (t := 5) (by decide +kernel) (by decide +kernel) (by exact ev_ob_221) rfl rfl ?_
        intro r40 hr40
        have hr40 : r40 = 0 ∨ ev_isOb (r40 - 1) 5 = true := hr40
        refine ev_r_chk ?_
        intro c41
        refine ev_r_dr (r := r40) (fun v => [v]) c41 ?_
        refine ev_r_getC (pc := 90) (y := 119) (ci := 5) (f := 0) (fin := 2) (k' := ((r40 - 1) + 1)) (by decide +kernel) (by decide +kernel) (by exact (hr40.resolve_left c41)) rfl rfl ?_
        refine ev_r_iload (pc := 93) (k := 4) (v := Int32.ofInt x39) (by decide +kernel) (by exact ev_lk_st1_self) ?_
        refine ev_r_iald (pc := 95) hx39 (by decide +kernel) (by exact (ev_fo_5_0 (hr40.resolve_left c41))) ?_
        intro x42 hx42
        refine ev_r_istore (pc := 96) (k := 5) (by decide +kernel) (by decide +kernel) rfl ?_
        refine ev_r_iload_n (pc := 98) (k := 2) (v := Int32.ofInt x21) (by decide +kernel) (by exact (ev_l1 (ev_l1 e25 (by decide) (by decide)) (by decide) (by decide))) ?_
        refine ev_r_iconst (pc := 99) (k := 3) (by decide +kernel) ?_
        refine ev_r_iand (pc := 100) (by decide +kernel) ?_
        intro x43 hx43
        refine ev_r_jn (Q := fun K => ∀ (x44 : Int) (hx44 : ev_rng x44), ∀ (x45 : Int) (hx45 : ev_rng x45), ∀ (x46 : Int) (hx46 : ev_rng x46), ∀ (s52 : ev_St) (w47 : List (Nat × Value)), ev_lk w47 0 = some (.ref 221) → ev_lk w47 3 = some (.int (Int32.ofInt x22)) → ev_lk w47 4 = some (.int (Int32.ofInt x44)) → ev_lk w47 5 = some (.int (Int32.ofInt x45)) → ev_w none (ev_Mof 40) d 109 w47 [.int (Int32.ofInt x46)] s52 (K x44 x45 x46 s52) ev_eU ev_PU) ?_ ?_
        · intro x44 hx44 x45 hx45 x46 hx46 s52 w47 e48 e49 e50 e51
          refine ev_r_istore (pc := 109) (k := 6) (by decide +kernel) (by decide +kernel) rfl ?_
          refine ev_r_iload (pc := 111) (k := 5) (v := Int32.ofInt x45) (by decide +kernel) (by exact (ev_lk_st1 e51 (by decide) rfl)) ?_
          refine ev_r_bipush (pc := 113) (k := 17) (by decide +kernel) (by decide +kernel) ?_
          refine ev_r_jn (Q := fun K => ∀ (x53 : Int) (hx53 : ev_rng x53), ∀ (x54 : Int) (hx54 : ev_rng x54), ∀ (s60 : ev_St) (w55 : List (Nat × Value)), ev_lk w55 0 = some (.ref 221) → ev_lk w55 3 = some (.int (Int32.ofInt x22)) → ev_lk w55 4 = some (.int (Int32.ofInt x44)) → ev_lk w55 6 = some (.int (Int32.ofInt x53)) → ev_w none (ev_Mof 40) d 142 w55 [.int (Int32.ofInt x54)] s60 (K x53 x54 s60) ev_eU ev_PU) ?_ ?_
          · intro x53 hx53 x54 hx54 s60 w55 e56 e57 e58 e59
            refine ev_r_istore (pc := 142) (k := 7) (by decide +kernel) (by decide +kernel) rfl ?_
            refine ev_r_iload (pc := 144) (k := 6) (v := Int32.ofInt x53) (by decide +kernel) (by exact (ev_lk_st1 e59 (by decide) rfl)) ?_
            refine ev_r_jn (Q := fun K => ∀ (x61 : Int) (hx61 : ev_rng x61), ∀ (x62 : Int) (hx62 : ev_rng x62), ∀ (s69 : ev_St) (w63 : List (Nat × Value)), ev_lk w63 0 = some (.ref 221) → ev_lk w63 3 = some (.int (Int32.ofInt x22)) → ev_lk w63 4 = some (.int (Int32.ofInt x44)) → ev_lk w63 6 = some (.int (Int32.ofInt x53)) → ev_lk w63 7 = some (.int (Int32.ofInt x61)) → ev_w none (ev_Mof 40) d 177 w63 [.int (Int32.ofInt x62)] s69 (K x61 x62 s69) ev_eU ev_PU) ?_ ?_
            · intro x61 hx61 x62 hx62 s69 w63 e64 e65 e66 e67 e68
              refine ev_r_istore_n (pc := 177) (k := 2) (by decide +kernel) (by decide +kernel) rfl ?_
              refine ev_r_aload_n (pc := 178) (k := 0) (v := .ref 221) trivial (by decide +kernel) (by exact (ev_l1 e64 (by decide) (by decide))) ?_
              refine ev_r_getR (pc := 179) (y := 47) (ci := 2) (f := 9) (fin := 0) (t := 5) (by decide +kernel) (by decide +kernel) (by exact ev_ob_221) rfl rfl ?_
              intro r70 hr70
              have hr70 : r70 = 0 ∨ ev_isOb (r70 - 1) 5 = true := hr70
              refine ev_r_iload (pc := 182) (k := 4) (v := Int32.ofInt x44) (by decide +kernel) (by exact (ev_l1 e66 (by decide) (by decide))) ?_
              refine ev_r_chk ?_
              intro c71
              refine ev_r_dr (r := r70) (fun v => [.int (Int32.ofInt x44), v]) c71 ?_
              refine ev_r_virt (pc := 184) (y := 194) (mi := 66) (na := 1) (k := (r70 - 1)) (as := [.int (Int32.ofInt x44)]) (rest := []) (encc := ev_oI) (Q := ev_bl) (fun x S1 h => jt_66 d (by omega) Q ((r70 - 1)) x44 (hr70.resolve_left c71) hx44 s69 x S1 h) (by exact (hr70.resolve_left c71)) (by decide +kernel) (by decide +kernel) (by decide +kernel) (by decide +kernel) rfl (by (try simp only [ev_sum, ev_nv_cat]); first | done | rfl) ?_
              intro x73 s72 hx73
              replace hx73 := ev_bl_rng hx73
              show ev_w _ _ _ _ _ [.int (Int32.ofInt x73)] _ _ _ _
              refine ev_r_jn (Q := fun K => ∀ (x74 : Int) (hx74 : ev_rng x74), ∀ (s79 : ev_St) (w75 : List (Nat × Value)), ev_lk w75 0 = some (.ref 221) → ev_lk w75 2 = some (.int (Int32.ofInt x74)) → ev_lk w75 3 = some (.int (Int32.ofInt x22)) → ev_w none (ev_Mof 40) d 237 w75 [] s79 (K x74 s79) ev_eU ev_PU) ?_ ?_
              · intro x74 hx74 s79 w75 e76 e77 e78
                refine ev_r_iinc (pc := 237) (k := 3) (c := 1) (x := x22) (by decide +kernel) (by decide +kernel) (by exact e78) (fun _ => rfl) ?_
                intro x80 hx80
                refine ev_r_goto (pc := 240) (o := (-179)) (t := 61) (by decide +kernel) (by decide +kernel) ?_
                exact hK61 x74 hx74 x80 hx80 s79 _ (by exact (ev_l1 e76 (by decide) (by decide))) (by exact (ev_lk_st1 e77 (by decide) rfl)) (by exact ev_lk_st1_self)
              · intro K237 hK237
                refine ev_r_if (pc := 187) (q := .eq) (o := 36) (t := 223) (c := x73 = 0) (by decide +kernel) (ev_k_eq hx73 ev_rng0) (by decide +kernel) ?_ ?_
                · intro c81
                  refine ev_r_iload (pc := 223) (k := 6) (v := Int32.ofInt x53) (by decide +kernel) (by exact (ev_l1 e67 (by decide) (by decide))) ?_
                  refine ev_r_if (pc := 225) (q := .eq) (o := 12) (t := 237) (c := x53 = 0) (by decide +kernel) (ev_k_eq hx53 ev_rng0) (by decide +kernel) ?_ ?_
                  · intro c82
                    exact hK237 x62 hx62 s72 _ (by exact (ev_l1 e64 (by decide) (by decide))) (by exact ev_lk_st1_self) (by exact (ev_l1 e65 (by decide) (by decide)))
                  · intro c82
                    refine ev_r_iload (pc := 228) (k := 7) (v := Int32.ofInt x61) (by decide +kernel) (by exact (ev_l1 e68 (by decide) (by decide))) ?_
                    refine ev_r_if (pc := 230) (q := .ne) (o := 7) (t := 237) (c := x61 ≠ 0) (by decide +kernel) (ev_k_ne hx61 ev_rng0) (by decide +kernel) ?_ ?_
                    · intro c83
                      exact hK237 x62 hx62 s72 _ (by exact (ev_l1 e64 (by decide) (by decide))) (by exact ev_lk_st1_self) (by exact (ev_l1 e65 (by decide) (by decide)))
                    · intro c83
                      refine ev_r_aload_n (pc := 233) (k := 0) (v := .ref 221) trivial (by decide +kernel) (by exact (ev_l1 e64 (by decide) (by decide))) ?_
                      refine ev_r_virt (pc := 234) (y := 200) (mi := 41) (na := 0) (k := 221) (as := []) (rest := []) (encc := ev_oU) (Q := ev_PU) (fun x S1 h => jt_41 d (by omega) Q   s72 x S1 h) (by exact ev_ob_221) (by decide +kernel) (by decide +kernel) (by decide +kernel) (by decide +kernel) rfl (by (try simp only [ev_sum, ev_nv_cat]); first | done | rfl) ?_
                      intro _ s84 _
                      show ev_w _ _ _ _ _ [] _ _ _ _
                      exact hK237 x62 hx62 s84 _ (by exact (ev_l1 e64 (by decide) (by decide))) (by exact ev_lk_st1_self) (by exact (ev_l1 e65 (by decide) (by decide)))
                · intro c81
                  refine ev_r_aload_n (pc := 190) (k := 0) (v := .ref 221) trivial (by decide +kernel) (by exact (ev_l1 e64 (by decide) (by decide))) ?_
                  refine ev_r_getC (pc := 191) (y := 43) (ci := 2) (f := 8) (fin := 1) (k' := 230) (by decide +kernel) (by decide +kernel) (by exact ev_ob_221) rfl rfl ?_
                  refine ev_r_aload_n (pc := 194) (k := 0) (v := .ref 221) trivial (by decide +kernel) (by exact (ev_l1 e64 (by decide) (by decide))) ?_
                  refine ev_r_getR (pc := 195) (y := 47) (ci := 2) (f := 9) (fin := 0) (t := 5) (by decide +kernel) (by decide +kernel) (by exact ev_ob_221) rfl rfl ?_
                  intro r85 hr85
                  have hr85 : r85 = 0 ∨ ev_isOb (r85 - 1) 5 = true := hr85
                  refine ev_r_chk ?_
                  intro c86
                  refine ev_r_dr (r := r85) (fun v => [v, .ref 230]) c86 ?_
                  refine ev_r_getC (pc := 198) (y := 122) (ci := 5) (f := 7) (fin := 2) (k' := ((r85 - 1) + 8)) (by decide +kernel) (by decide +kernel) (by exact (hr85.resolve_left c86)) rfl rfl ?_
                  refine ev_r_iload (pc := 201) (k := 4) (v := Int32.ofInt x44) (by decide +kernel) (by exact (ev_l1 e66 (by decide) (by decide))) ?_
                  refine ev_r_lald (pc := 203) hx44 (by decide +kernel) (by exact (ev_fo_5_7 (hr85.resolve_left c86))) ?_
                  intro y87
                  refine ev_r_aload_n (pc := 204) (k := 0) (v := .ref 221) trivial (by decide +kernel) (by exact (ev_l1 e64 (by decide) (by decide))) ?_
                  refine ev_r_getR (pc := 205) (y := 47) (ci := 2) (f := 9) (fin := 0) (t := 5) (by decide +kernel) (by decide +kernel) (by exact ev_ob_221) rfl rfl ?_
                  intro r88 hr88
                  have hr88 : r88 = 0 ∨ ev_isOb (r88 - 1) 5 = true := hr88
                  refine ev_r_chk ?_
                  intro c89
                  refine ev_r_dr (r := r88) (fun v => [v, .long y87, .ref 230]) c89 ?_
                  refine ev_r_getC (pc := 208) (y := 125) (ci := 5) (f := 8) (fin := 2) (k' := ((r88 - 1) + 9)) (by decide +kernel) (by decide +kernel) (by exact (hr88.resolve_left c89)) rfl rfl ?_
                  refine ev_r_iload (pc := 211) (k := 4) (v := Int32.ofInt x44) (by decide +kernel) (by exact (ev_l1 e66 (by decide) (by decide))) ?_
                  refine ev_r_lald (pc := 213) hx44 (by decide +kernel) (by exact (ev_fo_5_8 (hr88.resolve_left c89))) ?_
                  intro y90
                  refine ev_r_stat (pc := 214) (y := 77) (kind := 2) (mi := 30) (na := 2) (as := [.long y87, .long y90]) (rest := [.ref 230]) (encc := ev_oI) (Q := ev_rng) (fun x S1 h => jt_30 d (by omega) Q y87 y90  s72 x S1 h) (Or.inl rfl) (by decide +kernel) (by decide +kernel) (by decide +kernel) (by decide +kernel) rfl (by (try simp only [ev_sum, ev_nv_cat]); first | done | rfl) ?_
                  intro x92 s91 hx92
                  show ev_w _ _ _ _ _ [.int (Int32.ofInt x92), .ref 230] _ _ _ _
                  refine ev_r_virt (pc := 217) (y := 197) (mi := 152) (na := 1) (k := 230) (as := [.int (Int32.ofInt x92)]) (rest := []) (encc := ev_oU) (Q := ev_PU) (fun x S1 h => jt_152 d (by omega) Q 230 x92 ev_ob_230 hx92 s91 x S1 h) (by exact ev_ob_230) (by decide +kernel) (by decide +kernel) (by decide +kernel) (by decide +kernel) rfl (by (try simp only [ev_sum, ev_nv_cat]); first | done | rfl) ?_
                  intro _ s93 _
                  show ev_w _ _ _ _ _ [] _ _ _ _
                  refine ev_r_goto (pc := 220) (o := 17) (t := 237) (by decide +kernel) (by decide +kernel) ?_
                  exact hK237 x62 hx62 s93 _ (by exact (ev_l1 e64 (by decide) (by decide))) (by exact ev_lk_st1_self) (by exact (ev_l1 e65 (by decide) (by decide)))
            · intro K177 hK177
              refine ev_r_jn (Q := fun K => ∀ (x94 : Int) (hx94 : ev_rng x94), ∀ (s101 : ev_St) (w95 : List (Nat × Value)), ev_lk w95 0 = some (.ref 221) → ev_lk w95 3 = some (.int (Int32.ofInt x22)) → ev_lk w95 4 = some (.int (Int32.ofInt x44)) → ev_lk w95 6 = some (.int (Int32.ofInt x53)) → ev_lk w95 7 = some (.int (Int32.ofInt x94)) → ev_w none (ev_Mof 40) d 167 w95 [] s101 (K x94 s101) ev_eU ev_PU) ?_ ?_
              · intro x94 hx94 s101 w95 e96 e97 e98 e99 e100
                refine ev_r_aload_n (pc := 167) (k := 0) (v := .ref 221) trivial (by decide +kernel) (by exact e96) ?_
                refine ev_r_getR (pc := 168) (y := 47) (ci := 2) (f := 9) (fin := 0) (t := 5) (by decide +kernel) (by decide +kernel) (by exact ev_ob_221) rfl rfl ?_
                intro r102 hr102
                have hr102 : r102 = 0 ∨ ev_isOb (r102 - 1) 5 = true := hr102
                refine ev_r_chk ?_
                intro c103
                refine ev_r_dr (r := r102) (fun v => [v]) c103 ?_
                refine ev_r_getC (pc := 171) (y := 191) (ci := 5) (f := 6) (fin := 2) (k' := ((r102 - 1) + 7)) (by decide +kernel) (by decide +kernel) (by exact (hr102.resolve_left c103)) rfl rfl ?_
                refine ev_r_iload (pc := 174) (k := 4) (v := Int32.ofInt x44) (by decide +kernel) (by exact e98) ?_
                refine ev_r_iald (pc := 176) hx44 (by decide +kernel) (by exact (ev_fo_5_6 (hr102.resolve_left c103))) ?_
                intro x104 hx104
                exact hK177 x94 hx94 x104 hx104 s101 _ (by exact e96) (by exact e97) (by exact e98) (by exact e99) (by exact e100)
              · intro K167 hK167
                refine ev_r_if (pc := 146) (q := .eq) (o := 21) (t := 167) (c := x53 = 0) (by decide +kernel) (ev_k_eq hx53 ev_rng0) (by decide +kernel) ?_ ?_
                · intro c105
                  exact hK167 x54 hx54 s60 _ (by exact (ev_l1 e56 (by decide) (by decide))) (by exact (ev_l1 e57 (by decide) (by decide))) (by exact (ev_l1 e58 (by decide) (by decide))) (by exact (ev_lk_st1 e59 (by decide) rfl)) (by exact ev_lk_st1_self)
                · intro c105
                  refine ev_r_iload (pc := 149) (k := 7) (v := Int32.ofInt x54) (by decide +kernel) (by exact ev_lk_st1_self) ?_
                  refine ev_r_if (pc := 151) (q := .eq) (o := 16) (t := 167) (c := x54 = 0) (by decide +kernel) (ev_k_eq hx54 ev_rng0) (by decide +kernel) ?_ ?_
                  · intro c106
                    exact hK167 x54 hx54 s60 _ (by exact (ev_l1 e56 (by decide) (by decide))) (by exact (ev_l1 e57 (by decide) (by decide))) (by exact (ev_l1 e58 (by decide) (by decide))) (by exact (ev_lk_st1 e59 (by decide) rfl)) (by exact ev_lk_st1_self)
                  · intro c106
                    refine ev_r_aload_n (pc := 154) (k := 0) (v := .ref 221) trivial (by decide +kernel) (by exact (ev_l1 e56 (by decide) (by decide))) ?_
                    refine ev_r_getR (pc := 155) (y := 47) (ci := 2) (f := 9) (fin := 0) (t := 5) (by decide +kernel) (by decide +kernel) (by exact ev_ob_221) rfl rfl ?_
                    intro r107 hr107
                    have hr107 : r107 = 0 ∨ ev_isOb (r107 - 1) 5 = true := hr107
                    refine ev_r_chk ?_
                    intro c108
                    refine ev_r_dr (r := r107) (fun v => [v]) c108 ?_
                    refine ev_r_getC (pc := 158) (y := 188) (ci := 5) (f := 5) (fin := 2) (k' := ((r107 - 1) + 6)) (by decide +kernel) (by decide +kernel) (by exact (hr107.resolve_left c108)) rfl rfl ?_
                    refine ev_r_iload (pc := 161) (k := 4) (v := Int32.ofInt x44) (by decide +kernel) (by exact (ev_l1 e58 (by decide) (by decide))) ?_
                    refine ev_r_iald (pc := 163) hx44 (by decide +kernel) (by exact (ev_fo_5_5 (hr107.resolve_left c108))) ?_
                    intro x109 hx109
                    refine ev_r_goto (pc := 164) (o := 13) (t := 177) (by decide +kernel) (by decide +kernel) ?_
                    exact hK177 x54 hx54 x109 hx109 s60 _ (by exact (ev_l1 e56 (by decide) (by decide))) (by exact (ev_l1 e57 (by decide) (by decide))) (by exact (ev_l1 e58 (by decide) (by decide))) (by exact (ev_lk_st1 e59 (by decide) rfl)) (by exact ev_lk_st1_self)
          · intro K142 hK142
            refine ev_r_jn (Q := fun K => ∀ (x110 : Int) (hx110 : ev_rng x110), ∀ (s116 : ev_St) (w111 : List (Nat × Value)), ev_lk w111 0 = some (.ref 221) → ev_lk w111 3 = some (.int (Int32.ofInt x22)) → ev_lk w111 4 = some (.int (Int32.ofInt x44)) → ev_lk w111 6 = some (.int (Int32.ofInt x110)) → ev_w none (ev_Mof 40) d 141 w111 [] s116 (K x110 s116) ev_eU ev_PU) ?_ ?_
            · intro x110 hx110 s116 w111 e112 e113 e114 e115
              refine ev_r_iconst (pc := 141) (k := 0) (by decide +kernel) ?_
              exact hK142 x110 hx110 0 (by decide) s116 _ (by exact e112) (by exact e113) (by exact e114) (by exact e115)
            · intro K141 hK141
              refine ev_r_icmp (pc := 115) (q := .lt) (o := 26) (t := 141) (c := x45 < 17) (by decide +kernel) (ev_k_lt hx45 (by decide)) (by decide +kernel) ?_ ?_
              · intro c117
                exact hK141 x46 hx46 s52 _ (by exact (ev_l1 e48 (by decide) (by decide))) (by exact (ev_l1 e49 (by decide) (by decide))) (by exact (ev_l1 e50 (by decide) (by decide))) (by exact ev_lk_st1_self)
              · intro c117
                refine ev_r_iload (pc := 118) (k := 5) (v := Int32.ofInt x45) (by decide +kernel) (by exact (ev_lk_st1 e51 (by decide) rfl)) ?_
                refine ev_r_bipush (pc := 120) (k := 19) (by decide +kernel) (by decide +kernel) ?_
                refine ev_r_icmp (pc := 122) (q := .gt) (o := 19) (t := 141) (c := 19 < x45) (by decide +kernel) (ev_k_gt hx45 (by decide)) (by decide +kernel) ?_ ?_
                · intro c118
                  exact hK141 x46 hx46 s52 _ (by exact (ev_l1 e48 (by decide) (by decide))) (by exact (ev_l1 e49 (by decide) (by decide))) (by exact (ev_l1 e50 (by decide) (by decide))) (by exact ev_lk_st1_self)
                · intro c118
                  refine ev_r_aload_n (pc := 125) (k := 0) (v := .ref 221) trivial (by decide +kernel) (by exact (ev_l1 e48 (by decide) (by decide))) ?_
                  refine ev_r_getR (pc := 126) (y := 47) (ci := 2) (f := 9) (fin := 0) (t := 5) (by decide +kernel) (by decide +kernel) (by exact ev_ob_221) rfl rfl ?_
                  intro r119 hr119
                  have hr119 : r119 = 0 ∨ ev_isOb (r119 - 1) 5 = true := hr119
                  refine ev_r_iload (pc := 129) (k := 4) (v := Int32.ofInt x44) (by decide +kernel) (by exact (ev_l1 e50 (by decide) (by decide))) ?_
                  refine ev_r_chk ?_
                  intro c120
                  refine ev_r_dr (r := r119) (fun v => [.int (Int32.ofInt x44), v]) c120 ?_
                  refine ev_r_virt (pc := 131) (y := 184) (mi := 65) (na := 1) (k := (r119 - 1)) (as := [.int (Int32.ofInt x44)]) (rest := []) (encc := ev_oI) (Q := ev_rng) (fun x S1 h => jt_65 d (by omega) Q ((r119 - 1)) x44 (hr119.resolve_left c120) hx44 s52 x S1 h) (by exact (hr119.resolve_left c120)) (by decide +kernel) (by decide +kernel) (by decide +kernel) (by decide +kernel) rfl (by (try simp only [ev_sum, ev_nv_cat]); first | done | rfl) ?_
                  intro x122 s121 hx122
                  show ev_w _ _ _ _ _ [.int (Int32.ofInt x122)] _ _ _ _
                  refine ev_r_if (pc := 134) (q := .lt) (o := 7) (t := 141) (c := x122 < 0) (by decide +kernel) (ev_k_lt hx122 ev_rng0) (by decide +kernel) ?_ ?_
                  · intro c123
                    exact hK141 x46 hx46 s121 _ (by exact (ev_l1 e48 (by decide) (by decide))) (by exact (ev_l1 e49 (by decide) (by decide))) (by exact (ev_l1 e50 (by decide) (by decide))) (by exact ev_lk_st1_self)
                  · intro c123
                    refine ev_r_iconst (pc := 137) (k := 1) (by decide +kernel) ?_
                    refine ev_r_goto (pc := 138) (o := 4) (t := 142) (by decide +kernel) (by decide +kernel) ?_
                    exact hK142 x46 hx46 1 (by decide) s121 _ (by exact (ev_l1 e48 (by decide) (by decide))) (by exact (ev_l1 e49 (by decide) (by decide))) (by exact (ev_l1 e50 (by decide) (by decide))) (by exact ev_lk_st1_self)
        · intro K109 hK109
          refine ev_r_if (pc := 101) (q := .ne) (o := 7) (t := 108) (c := x43 ≠ 0) (by decide +kernel) (ev_k_ne hx43 ev_rng0) (by decide +kernel) ?_ ?_
          · intro c124
            refine ev_r_iconst (pc := 108) (k := 0) (by decide +kernel) ?_
            exact hK109 x39 hx39 x42 hx42 0 (by decide) s36 _ (by exact (ev_l1 (ev_l1 e24 (by decide) (by decide)) (by decide) (by decide))) (by exact (ev_l1 (ev_lk_st1 e26 (by decide) rfl) (by decide) (by decide))) (by exact (ev_lk_st1 ev_lk_st1_self (by decide) rfl)) (by exact ev_lk_st1_self)
          · intro c124
            refine ev_r_iconst (pc := 104) (k := 1) (by decide +kernel) ?_
            refine ev_r_goto (pc := 105) (o := 4) (t := 109) (by decide +kernel) (by decide +kernel) ?_
            exact hK109 x39 hx39 x42 hx42 1 (by decide) s36 _ (by exact (ev_l1 (ev_l1 e24 (by decide) (by decide)) (by decide) (by decide))) (by exact (ev_l1 (ev_lk_st1 e26 (by decide) rfl) (by decide) (by decide))) (by exact (ev_lk_st1 ev_lk_st1_self (by decide) rfl)) (by exact ev_lk_st1_self)
theorem jlt_40_61 (d : Nat) (hd : 3 ≤ d + 1) (Q : Nat)     : ∀ q : Nat, ∀ (x21 : Int) (hx21 : ev_rng x21), ∀ (x22 : Int) (hx22 : ev_rng x22), ∀ (s27 : ev_St) (w23 : List (Nat × Value)), ev_lk w23 0 = some (.ref 221) → ev_lk w23 2 = some (.int (Int32.ofInt x21)) → ev_lk w23 3 = some (.int (Int32.ofInt x22)) → ev_w none (ev_Mof 40) d 61 w23 [] s27 (jl_40_61 Q   q x21 x22 s27) ev_eU ev_PU := by
  intro q
  induction q with
  | zero =>
    intro x21 hx21 x22 hx22 s27 w23 e24 e25 e26
    exact ev_w_none
  | succ q ih => exact jbt_40_61 d hd Q     _ ih
/-- MendBench$Facts.findLiteral()V -/
def jm_40 (Q : Nat)  (S : ev_St) : Option ((Unit) × ev_St) := ev_b (S.2.2.1 221 9) fun r1 => ev_if (r1 ≠ 0) (ev_b (ev_pI S (((r1 - 1) + 18)) 1 0) fun s3 => ev_b (ev_pI s3 230 1 0) fun s4 => ev_b (s4.2.2.1 221 9) fun r5 => ev_b (s4.2.2.1 221 9) fun r6 => ev_if (r6 ≠ 0) (ev_bd (jm_60 Q ((r6 - 1)) s4) fun x9 s8 => ev_if (r5 ≠ 0) (ev_bd (jm_65 Q ((r5 - 1)) x9 s8) fun x12 s11 => ev_b (s11.2.2.1 221 9) fun r13 => ev_if (r13 ≠ 0) (ev_bd (jm_59 Q ((r13 - 1)) x12 s11) fun x16 s15 => ev_jn (fun (x17 : Int) (s20 : ev_St) => jl_40_61 Q   Q x17 0 s20) fun K58 => if x16 = 0 then (K58 ((-1)) s15) else (ev_b (s15.2.2.1 221 9) fun r126 => ev_if (r126 ≠ 0) (ev_if ((0 : Int) ≤ x12 ∧ x12 < (ev_aln (((r126 - 1) + 6)) : Int)) (ev_b (s15.1 (((r126 - 1) + 6)) (Int.toNat x12)) fun x128 => K58 x128 s15)))))))
theorem jt_40 (d : Nat) (hd : 3 ≤ d) (Q : Nat)   (S : ev_St) (x : Unit) (S' : ev_St) (hJ : jm_40 Q  S = some (x, S')) : ev_Ref d 40 [.ref 221] S (ev_eU x) S' (ev_PU x) := by
  obtain ⟨d, rfl⟩ : ∃ e, d = e + 1 := ⟨d - 1, by omega⟩
  refine ev_ref_of (P := ev_PU) (lv := [(0, .ref 221)]) (by decide +kernel) (by (try simp only [ev_sum, ev_nv_cat]); first | done | rfl) (by (try simp only [lv_args, ev_nv_cat]); first | done | rfl) ?_ x S' hJ
  unfold jm_40
  refine ev_r_aload_n (pc := 0) (k := 0) (v := .ref 221) trivial (by decide +kernel) (by rfl) ?_
  refine ev_r_getR (pc := 1) (y := 47) (ci := 2) (f := 9) (fin := 0) (t := 5) (by decide +kernel) (by decide +kernel) (by exact ev_ob_221) rfl rfl ?_
  intro r1 hr1
  have hr1 : r1 = 0 ∨ ev_isOb (r1 - 1) 5 = true := hr1
  refine ev_r_chk ?_
  intro c2
  refine ev_r_dr (r := r1) (fun v => [v]) c2 ?_
  refine ev_r_getC (pc := 4) (y := 180) (ci := 5) (f := 20) (fin := 2) (k' := ((r1 - 1) + 18)) (by decide +kernel) (by decide +kernel) (by exact (hr1.resolve_left c2)) rfl rfl ?_
  refine ev_r_iconst (pc := 7) (k := 0) (by decide +kernel) ?_
  refine ev_r_putI (pc := 8) (y := 183) (ci := 10) (f := 1) (by decide) (by decide +kernel) (by decide +kernel) (by exact (ev_fo_5_20 (hr1.resolve_left c2))) rfl rfl ?_
  intro s3
  refine ev_r_aload_n (pc := 11) (k := 0) (v := .ref 221) trivial (by decide +kernel) (by rfl) ?_
  refine ev_r_getC (pc := 12) (y := 43) (ci := 2) (f := 8) (fin := 1) (k' := 230) (by decide +kernel) (by decide +kernel) (by exact ev_ob_221) rfl rfl ?_
  refine ev_r_iconst (pc := 15) (k := 0) (by decide +kernel) ?_
  refine ev_r_putI (pc := 16) (y := 183) (ci := 10) (f := 1) (by decide) (by decide +kernel) (by decide +kernel) (by exact ev_ob_230) rfl rfl ?_
  intro s4
  refine ev_r_aload_n (pc := 19) (k := 0) (v := .ref 221) trivial (by decide +kernel) (by rfl) ?_
  refine ev_r_getR (pc := 20) (y := 47) (ci := 2) (f := 9) (fin := 0) (t := 5) (by decide +kernel) (by decide +kernel) (by exact ev_ob_221) rfl rfl ?_
  intro r5 hr5
  have hr5 : r5 = 0 ∨ ev_isOb (r5 - 1) 5 = true := hr5
  refine ev_r_aload_n (pc := 23) (k := 0) (v := .ref 221) trivial (by decide +kernel) (by rfl) ?_
  refine ev_r_getR (pc := 24) (y := 47) (ci := 2) (f := 9) (fin := 0) (t := 5) (by decide +kernel) (by decide +kernel) (by exact ev_ob_221) rfl rfl ?_
  intro r6 hr6
  have hr6 : r6 = 0 ∨ ev_isOb (r6 - 1) 5 = true := hr6
  refine ev_r_chk ?_
  intro c7
  refine ev_r_dr (r := r6) (fun v => [v, ev_nv r5]) c7 ?_
  refine ev_r_virt (pc := 27) (y := 59) (mi := 60) (na := 0) (k := (r6 - 1)) (as := []) (rest := [ev_nv r5]) (encc := ev_oI) (Q := ev_rng) (fun x S1 h => jt_60 d (by omega) Q ((r6 - 1)) (hr6.resolve_left c7) s4 x S1 h) (by exact (hr6.resolve_left c7)) (by decide +kernel) (by decide +kernel) (by decide +kernel) (by decide +kernel) rfl (by (try simp only [ev_sum, ev_nv_cat]); first | done | rfl) ?_
  intro x9 s8 hx9
  show ev_w _ _ _ _ _ [.int (Int32.ofInt x9), ev_nv r5] _ _ _ _
  refine ev_r_chk ?_
  intro c10
  refine ev_r_dr (r := r5) (fun v => [.int (Int32.ofInt x9), v]) c10 ?_
  refine ev_r_virt (pc := 30) (y := 184) (mi := 65) (na := 1) (k := (r5 - 1)) (as := [.int (Int32.ofInt x9)]) (rest := []) (encc := ev_oI) (Q := ev_rng) (fun x S1 h => jt_65 d (by omega) Q ((r5 - 1)) x9 (hr5.resolve_left c10) hx9 s8 x S1 h) (by exact (hr5.resolve_left c10)) (by decide +kernel) (by decide +kernel) (by decide +kernel) (by decide +kernel) rfl (by (try simp only [ev_sum, ev_nv_cat]); first | done | rfl) ?_
  intro x12 s11 hx12
  show ev_w _ _ _ _ _ [.int (Int32.ofInt x12)] _ _ _ _
  refine ev_r_istore_n (pc := 33) (k := 1) (by decide +kernel) (by decide +kernel) rfl ?_
  refine ev_r_aload_n (pc := 34) (k := 0) (v := .ref 221) trivial (by decide +kernel) (by exact (ev_lk_st1 (by rfl) (by decide) rfl)) ?_
  refine ev_r_getR (pc := 35) (y := 47) (ci := 2) (f := 9) (fin := 0) (t := 5) (by decide +kernel) (by decide +kernel) (by exact ev_ob_221) rfl rfl ?_
  intro r13 hr13
  have hr13 : r13 = 0 ∨ ev_isOb (r13 - 1) 5 = true := hr13
  refine ev_r_iload_n (pc := 38) (k := 1) (v := Int32.ofInt x12) (by decide +kernel) (by exact ev_lk_st1_self) ?_
  refine ev_r_chk ?_
  intro c14
  refine ev_r_dr (r := r13) (fun v => [.int (Int32.ofInt x12), v]) c14 ?_
  refine ev_r_virt (pc := 39) (y := 63) (mi := 59) (na := 1) (k := (r13 - 1)) (as := [.int (Int32.ofInt x12)]) (rest := []) (encc := ev_oI) (Q := ev_bl) (fun x S1 h => jt_59 d (by omega) Q ((r13 - 1)) x12 (hr13.resolve_left c14) hx12 s11 x S1 h) (by exact (hr13.resolve_left c14)) (by decide +kernel) (by decide +kernel) (by decide +kernel) (by decide +kernel) rfl (by (try simp only [ev_sum, ev_nv_cat]); first | done | rfl) ?_
  intro x16 s15 hx16
  replace hx16 := ev_bl_rng hx16
  show ev_w _ _ _ _ _ [.int (Int32.ofInt x16)] _ _ _ _
  refine ev_r_jn (Q := fun K => ∀ (x17 : Int) (hx17 : ev_rng x17), ∀ (s20 : ev_St) (w18 : List (Nat × Value)), ev_lk w18 0 = some (.ref 221) → ev_w none (ev_Mof 40) d 58 w18 [.int (Int32.ofInt x17)] s20 (K x17 s20) ev_eU ev_PU) ?_ ?_
  · intro x17 hx17 s20 w18 e19
    refine ev_r_istore_n (pc := 58) (k := 2) (by decide +kernel) (by decide +kernel) rfl ?_
    refine ev_r_iconst (pc := 59) (k := 0) (by decide +kernel) ?_
    refine ev_r_istore_n (pc := 60) (k := 3) (by decide +kernel) (by decide +kernel) rfl ?_
    exact jlt_40_61 d hd Q     Q x17 hx17 0 (by decide) s20 _ (by exact (ev_l1 (ev_l1 e19 (by decide) (by decide)) (by decide) (by decide))) (by exact (ev_lk_st1 ev_lk_st1_self (by decide) rfl)) (by exact ev_lk_st1_self)
  · intro K58 hK58
    refine ev_r_if (pc := 42) (q := .eq) (o := 15) (t := 57) (c := x16 = 0) (by decide +kernel) (ev_k_eq hx16 ev_rng0) (by decide +kernel) ?_ ?_
    · intro c125
      refine ev_r_iconst (pc := 57) (k := -1) (by decide +kernel) ?_
      exact hK58 ((-1)) (by decide) s15 _ (by exact (ev_lk_st1 (by rfl) (by decide) rfl))
    · intro c125
      refine ev_r_aload_n (pc := 45) (k := 0) (v := .ref 221) trivial (by decide +kernel) (by exact (ev_lk_st1 (by rfl) (by decide) rfl)) ?_
      refine ev_r_getR (pc := 46) (y := 47) (ci := 2) (f := 9) (fin := 0) (t := 5) (by decide +kernel) (by decide +kernel) (by exact ev_ob_221) rfl rfl ?_
      intro r126 hr126
      have hr126 : r126 = 0 ∨ ev_isOb (r126 - 1) 5 = true := hr126
      refine ev_r_chk ?_
      intro c127
      refine ev_r_dr (r := r126) (fun v => [v]) c127 ?_
      refine ev_r_getC (pc := 49) (y := 188) (ci := 5) (f := 5) (fin := 2) (k' := ((r126 - 1) + 6)) (by decide +kernel) (by decide +kernel) (by exact (hr126.resolve_left c127)) rfl rfl ?_
      refine ev_r_iload_n (pc := 52) (k := 1) (v := Int32.ofInt x12) (by decide +kernel) (by exact ev_lk_st1_self) ?_
      refine ev_r_iald (pc := 53) hx12 (by decide +kernel) (by exact (ev_fo_5_5 (hr126.resolve_left c127))) ?_
      intro x128 hx128
      refine ev_r_goto (pc := 54) (o := 4) (t := 58) (by decide +kernel) (by decide +kernel) ?_
      exact hK58 x128 hx128 s15 _ (by exact (ev_lk_st1 (by rfl) (by decide) rfl))
def jb_38_2 (Q : Nat)   (K2 : Int → ev_St → Option ((Int) × ev_St)) (x1 : Int) (s5 : ev_St) : Option ((Int) × ev_St) := ev_b (s5.2.2.1 221 9) fun r6 => ev_if (r6 ≠ 0) (ev_b (s5.1 ((r6 - 1)) 11) fun x8 => if x8 ≤ x1 then (some (1, s5)) else (if 400 ≤ x1 then (some (1, s5)) else (ev_b (s5.2.2.1 221 9) fun r11 => ev_if (r11 ≠ 0) (ev_if ((0 : Int) ≤ x1 ∧ x1 < (ev_aln (((r11 - 1) + 1)) : Int)) (ev_b (s5.1 (((r11 - 1) + 1)) (Int.toNat x1)) fun x13 => ev_b (s5.2.2.1 221 9) fun r14 => ev_if (r14 ≠ 0) (ev_if ((0 : Int) ≤ x1 ∧ x1 < (ev_aln (((r14 - 1) + 4)) : Int)) (ev_b (s5.1 (((r14 - 1) + 4)) (Int.toNat x1)) fun x16 => ev_bd (jm_62 Q x13 s5) fun x18 s17 => ev_jn (fun (x19 : Int) (x20 : Int) (x21 : Int) (s27 : ev_St) => ev_jn (fun  (s32 : ev_St) => ev_jn (fun (x33 : Int) (s37 : ev_St) => if x33 = 0 then (ev_ck (x1 + 1) fun x39 => K2 x39 s37) else (some (0, s37))) fun K117 => ev_jn (fun  (s43 : ev_St) => K117 1 s43) fun K112 => ev_jn (fun  (s48 : ev_St) => if x19 < 19 then (K117 0 s48) else (K112  s48)) fun K106 => if x19 < 7 then (K106  s32) else (if x19 ≤ 12 then (K112  s32) else (K106  s32))) fun K94 => if x21 = 0 then (K94  s27) else (ev_b (s27.2.2.1 221 9) fun r53 => ev_if (r53 ≠ 0) (ev_bd (jm_59 Q ((r53 - 1)) x20 s27) fun x56 s55 => if x56 = 0 then (K94  s55) else (ev_if ((0 : Int) ≤ x20 ∧ x20 < (ev_aln 222 : Int)) (ev_b (s55.1 222 (Int.toNat x20)) fun x58 => if x58 ≠ 0 then (K94  s55) else (some (0, s55))))))) fun K65 => ev_jn (fun (x60 : Int) (x61 : Int) (s67 : ev_St) => K65 x60 x61 0 s67) fun K64 => if x18 = 0 then (K64 x13 x16 s17) else (ev_b (s17.2.2.1 221 9) fun r69 => ev_if (r69 ≠ 0) (ev_if ((0 : Int) ≤ x1 ∧ x1 < (ev_aln (((r69 - 1) + 3)) : Int)) (ev_b (s17.1 (((r69 - 1) + 3)) (Int.toNat x1)) fun x71 => if x71 ≠ (-1) then (K64 x13 x16 s17) else (K65 x13 x16 1 s17)))))))))))
def jl_38_2 (Q : Nat)   : Nat → Int → ev_St → Option ((Int) × ev_St)
  | 0 => fun _ _ => none
  | q + 1 => jb_38_2 Q   (jl_38_2 Q   q)
theorem jbt_38_2 (d : Nat) (hd : 2 ≤ d + 1) (Q : Nat)     (K2 : Int → ev_St → Option ((Int) × ev_St)) (hK2 : ∀ (x1 : Int) (hx1 : ev_rng x1), ∀ (s5 : ev_St) (w2 : List (Nat × Value)), ev_lk w2 0 = some (.ref 221) → ev_lk w2 1 = some (.int (Int32.ofInt x1)) → ev_w none (ev_Mof 38) d 2 w2 [] s5 (K2 x1 s5) ev_eI ev_bl) : ∀ (x1 : Int) (hx1 : ev_rng x1), ∀ (s5 : ev_St) (w2 : List (Nat × Value)), ev_lk w2 0 = some (.ref 221) → ev_lk w2 1 = some (.int (Int32.ofInt x1)) → ev_w none (ev_Mof 38) d 2 w2 [] s5 (jb_38_2 Q   K2 x1 s5) ev_eI ev_bl := by
  intro x1 hx1 s5 w2 e3 e4
  unfold jb_38_2
  refine ev_r_iload_n (pc := 2) (k := 1) (v := Int32.ofInt x1) (by decide +kernel) (by exact e4) ?_
  refine ev_r_aload_n (pc := 3) (k := 0) (v := .ref 221) trivial (by decide +kernel) (by exact e3) ?_
  refine ev_r_getR (pc := 4) (y := 47) (ci := 2) (f := 9) (fin := 0) (t := 5) (by decide +kernel) (by decide +kernel) (by exact ev_ob_221) rfl rfl ?_
  intro r6 hr6
  have hr6 : r6 = 0 ∨ ev_isOb (r6 - 1) 5 = true := hr6
  refine ev_r_chk ?_
  intro c7
  refine ev_r_dr (r := r6) (fun v => [v, .int (Int32.ofInt x1)]) c7 ?_
  refine ev_r_getI (pc := 7) (y := 51) (ci := 5) (f := 11) (fin := 0) (by decide +kernel) (by decide +kernel) (by exact (hr6.resolve_left c7)) rfl ?_
  intro x8 hx8
  refine ev_r_icmp (pc := 10) (q := .ge) (o := 122) (t := 132) (c := x8 ≤ x1) (by decide +kernel) (ev_k_ge hx1 hx8) (by decide +kernel) ?_ ?_
  · intro c9
    refine ev_r_iconst (pc := 132) (k := 1) (by decide +kernel) ?_
    exact ev_r_ireturn (pc := 133) (x := 1) (v := Int32.ofInt 1) (ty := .boolean) (by decide : ev_bl 1) (by decide +kernel) (by decide +kernel) (ev_ret_bl (by decide : ev_bl 1)) rfl
  · intro c9
    refine ev_r_iload_n (pc := 13) (k := 1) (v := Int32.ofInt x1) (by decide +kernel) (by exact e4) ?_
    refine ev_r_sipush (pc := 14) (k := 400) (by decide +kernel) (by decide +kernel) ?_
    refine ev_r_icmp (pc := 17) (q := .ge) (o := 115) (t := 132) (c := 400 ≤ x1) (by decide +kernel) (ev_k_ge hx1 (by decide)) (by decide +kernel) ?_ ?_
    · intro c10
      refine ev_r_iconst (pc := 132) (k := 1) (by decide +kernel) ?_
      exact ev_r_ireturn (pc := 133) (x := 1) (v := Int32.ofInt 1) (ty := .boolean) (by decide : ev_bl 1) (by decide +kernel) (by decide +kernel) (ev_ret_bl (by decide : ev_bl 1)) rfl
    · intro c10
      refine ev_r_aload_n (pc := 20) (k := 0) (v := .ref 221) trivial (by decide +kernel) (by exact e3) ?_
      refine ev_r_getR (pc := 21) (y := 47) (ci := 2) (f := 9) (fin := 0) (t := 5) (by decide +kernel) (by decide +kernel) (by exact ev_ob_221) rfl rfl ?_
      intro r11 hr11
      have hr11 : r11 = 0 ∨ ev_isOb (r11 - 1) 5 = true := hr11
      refine ev_r_chk ?_
      intro c12
      refine ev_r_dr (r := r11) (fun v => [v]) c12 ?_
      refine ev_r_getC (pc := 24) (y := 119) (ci := 5) (f := 0) (fin := 2) (k' := ((r11 - 1) + 1)) (by decide +kernel) (by decide +kernel) (by exact (hr11.resolve_left c12)) rfl rfl ?_
      refine ev_r_iload_n (pc := 27) (k := 1) (v := Int32.ofInt x1) (by decide +kernel) (by exact e4) ?_
      refine ev_r_iald (pc := 28) hx1 (by decide +kernel) (by exact (ev_fo_5_0 (hr11.resolve_left c12))) ?_
      intro x13 hx13
      refine ev_r_istore_n (pc := 29) (k := 2) (by decide +kernel) (by decide +kernel) rfl ?_
      refine ev_r_aload_n (pc := 30) (k := 0) (v := .ref 221) trivial (by decide +kernel) (by exact (ev_l1 e3 (by decide) (by decide))) ?_
      refine ev_r_getR (pc := 31) (y := 47) (ci := 2) (f := 9) (fin := 0) (t := 5) (by decide +kernel) (by decide +kernel) (by exact ev_ob_221) rfl rfl ?_
      intro r14 hr14
      have hr14 : r14 = 0 ∨ ev_isOb (r14 - 1) 5 = true := hr14
      refine ev_r_chk ?_
      intro c15
      refine ev_r_dr (r := r14) (fun v => [v]) c15 ?_
      refine ev_r_getC (pc := 34) (y := 154) (ci := 5) (f := 3) (fin := 2) (k' := ((r14 - 1) + 4)) (by decide +kernel) (by decide +kernel) (by exact (hr14.resolve_left c15)) rfl rfl ?_
      refine ev_r_iload_n (pc := 37) (k := 1) (v := Int32.ofInt x1) (by decide +kernel) (by exact (ev_lk_st1 e4 (by decide) rfl)) ?_
      refine ev_r_iald (pc := 38) hx1 (by decide +kernel) (by exact (ev_fo_5_3 (hr14.resolve_left c15))) ?_
      intro x16 hx16
      refine ev_r_istore_n (pc := 39) (k := 3) (by decide +kernel) (by decide +kernel) rfl ?_
      refine ev_r_iload_n (pc := 40) (k := 2) (v := Int32.ofInt x13) (by decide +kernel) (by exact (ev_lk_st1 ev_lk_st1_self (by decide) rfl)) ?_
      refine ev_r_stat (pc := 41) (y := 139) (kind := 2) (mi := 62) (na := 1) (as := [.int (Int32.ofInt x13)]) (rest := []) (encc := ev_oI) (Q := ev_bl) (fun x S1 h => jt_62 d (by omega) Q x13 hx13 s5 x S1 h) (Or.inl rfl) (by decide +kernel) (by decide +kernel) (by decide +kernel) (by decide +kernel) rfl (by (try simp only [ev_sum, ev_nv_cat]); first | done | rfl) ?_
      intro x18 s17 hx18
      replace hx18 := ev_bl_rng hx18
      show ev_w _ _ _ _ _ [.int (Int32.ofInt x18)] _ _ _ _
      refine ev_r_jn (Q := fun K => ∀ (x19 : Int) (hx19 : ev_rng x19), ∀ (x20 : Int) (hx20 : ev_rng x20), ∀ (x21 : Int) (hx21 : ev_rng x21), ∀ (s27 : ev_St) (w22 : List (Nat × Value)), ev_lk w22 0 = some (.ref 221) → ev_lk w22 1 = some (.int (Int32.ofInt x1)) → ev_lk w22 2 = some (.int (Int32.ofInt x19)) → ev_lk w22 3 = some (.int (Int32.ofInt x20)) → ev_w none (ev_Mof 38) d 65 w22 [.int (Int32.ofInt x21)] s27 (K x19 x20 x21 s27) ev_eI ev_bl) ?_ ?_
      · intro x19 hx19 x20 hx20 x21 hx21 s27 w22 e23 e24 e25 e26
        refine ev_r_istore (pc := 65) (k := 4) (by decide +kernel) (by decide +kernel) rfl ?_
        refine ev_r_iload (pc := 67) (k := 4) (v := Int32.ofInt x21) (by decide +kernel) (by exact ev_lk_st1_self) ?_
        refine ev_r_jn (Q := fun K => ∀ (s32 : ev_St) (w28 : List (Nat × Value)), ev_lk w28 0 = some (.ref 221) → ev_lk w28 1 = some (.int (Int32.ofInt x1)) → ev_lk w28 2 = some (.int (Int32.ofInt x19)) → ev_w none (ev_Mof 38) d 94 w28 [] s32 (K  s32) ev_eI ev_bl) ?_ ?_
        · intro  s32 w28 e29 e30 e31
          refine ev_r_iload_n (pc := 94) (k := 2) (v := Int32.ofInt x19) (by decide +kernel) (by exact e31) ?_
          refine ev_r_bipush (pc := 95) (k := 7) (by decide +kernel) (by decide +kernel) ?_
          refine ev_r_jn (Q := fun K => ∀ (x33 : Int) (hx33 : ev_rng x33), ∀ (s37 : ev_St) (w34 : List (Nat × Value)), ev_lk w34 0 = some (.ref 221) → ev_lk w34 1 = some (.int (Int32.ofInt x1)) → ev_w none (ev_Mof 38) d 117 w34 [.int (Int32.ofInt x33)] s37 (K x33 s37) ev_eI ev_bl) ?_ ?_
          · intro x33 hx33 s37 w34 e35 e36
            refine ev_r_istore (pc := 117) (k := 5) (by decide +kernel) (by decide +kernel) rfl ?_
            refine ev_r_iload (pc := 119) (k := 5) (v := Int32.ofInt x33) (by decide +kernel) (by exact ev_lk_st1_self) ?_
            refine ev_r_if (pc := 121) (q := .eq) (o := 5) (t := 126) (c := x33 = 0) (by decide +kernel) (ev_k_eq hx33 ev_rng0) (by decide +kernel) ?_ ?_
            · intro c38
              refine ev_r_iinc (pc := 126) (k := 1) (c := 1) (x := x1) (by decide +kernel) (by decide +kernel) (by exact (ev_l1 e36 (by decide) (by decide))) (fun _ => rfl) ?_
              intro x39 hx39
              refine ev_r_goto (pc := 129) (o := (-127)) (t := 2) (by decide +kernel) (by decide +kernel) ?_
              exact hK2 x39 hx39 s37 _ (by exact (ev_lk_st1 (ev_l1 e35 (by decide) (by decide)) (by decide) rfl)) (by exact ev_lk_st1_self)
            · intro c38
              refine ev_r_iconst (pc := 124) (k := 0) (by decide +kernel) ?_
              exact ev_r_ireturn (pc := 125) (x := 0) (v := Int32.ofInt 0) (ty := .boolean) (by decide : ev_bl 0) (by decide +kernel) (by decide +kernel) (ev_ret_bl (by decide : ev_bl 0)) rfl
          · intro K117 hK117
            refine ev_r_jn (Q := fun K => ∀ (s43 : ev_St) (w40 : List (Nat × Value)), ev_lk w40 0 = some (.ref 221) → ev_lk w40 1 = some (.int (Int32.ofInt x1)) → ev_w none (ev_Mof 38) d 112 w40 [] s43 (K  s43) ev_eI ev_bl) ?_ ?_
            · intro  s43 w40 e41 e42
              refine ev_r_iconst (pc := 112) (k := 1) (by decide +kernel) ?_
              refine ev_r_goto (pc := 113) (o := 4) (t := 117) (by decide +kernel) (by decide +kernel) ?_
              exact hK117 1 (by decide) s43 _ (by exact e41) (by exact e42)
            · intro K112 hK112
              refine ev_r_jn (Q := fun K => ∀ (s48 : ev_St) (w44 : List (Nat × Value)), ev_lk w44 0 = some (.ref 221) → ev_lk w44 1 = some (.int (Int32.ofInt x1)) → ev_lk w44 2 = some (.int (Int32.ofInt x19)) → ev_w none (ev_Mof 38) d 106 w44 [] s48 (K  s48) ev_eI ev_bl) ?_ ?_
              · intro  s48 w44 e45 e46 e47
                refine ev_r_iload_n (pc := 106) (k := 2) (v := Int32.ofInt x19) (by decide +kernel) (by exact e47) ?_
                refine ev_r_bipush (pc := 107) (k := 19) (by decide +kernel) (by decide +kernel) ?_
                refine ev_r_icmp (pc := 109) (q := .lt) (o := 7) (t := 116) (c := x19 < 19) (by decide +kernel) (ev_k_lt hx19 (by decide)) (by decide +kernel) ?_ ?_
                · intro c49
                  refine ev_r_iconst (pc := 116) (k := 0) (by decide +kernel) ?_
                  exact hK117 0 (by decide) s48 _ (by exact e45) (by exact e46)
                · intro c49
                  exact hK112  s48 _ (by exact e45) (by exact e46)
              · intro K106 hK106
                refine ev_r_icmp (pc := 97) (q := .lt) (o := 9) (t := 106) (c := x19 < 7) (by decide +kernel) (ev_k_lt hx19 (by decide)) (by decide +kernel) ?_ ?_
                · intro c50
                  exact hK106  s32 _ (by exact e29) (by exact e30) (by exact e31)
                · intro c50
                  refine ev_r_iload_n (pc := 100) (k := 2) (v := Int32.ofInt x19) (by decide +kernel) (by exact e31) ?_
                  refine ev_r_bipush (pc := 101) (k := 12) (by decide +kernel) (by decide +kernel) ?_
                  refine ev_r_icmp (pc := 103) (q := .le) (o := 9) (t := 112) (c := x19 ≤ 12) (by decide +kernel) (ev_k_le hx19 (by decide)) (by decide +kernel) ?_ ?_
                  · intro c51
                    exact hK112  s32 _ (by exact e29) (by exact e30)
                  · intro c51
                    exact hK106  s32 _ (by exact e29) (by exact e30) (by exact e31)
        · intro K94 hK94
          refine ev_r_if (pc := 69) (q := .eq) (o := 25) (t := 94) (c := x21 = 0) (by decide +kernel) (ev_k_eq hx21 ev_rng0) (by decide +kernel) ?_ ?_
          · intro c52
            exact hK94  s27 _ (by exact (ev_l1 e23 (by decide) (by decide))) (by exact (ev_l1 e24 (by decide) (by decide))) (by exact (ev_l1 e25 (by decide) (by decide)))
          · intro c52
            refine ev_r_aload_n (pc := 72) (k := 0) (v := .ref 221) trivial (by decide +kernel) (by exact (ev_l1 e23 (by decide) (by decide))) ?_
            refine ev_r_getR (pc := 73) (y := 47) (ci := 2) (f := 9) (fin := 0) (t := 5) (by decide +kernel) (by decide +kernel) (by exact ev_ob_221) rfl rfl ?_
            intro r53 hr53
            have hr53 : r53 = 0 ∨ ev_isOb (r53 - 1) 5 = true := hr53
            refine ev_r_iload_n (pc := 76) (k := 3) (v := Int32.ofInt x20) (by decide +kernel) (by exact (ev_lk_st1 e26 (by decide) rfl)) ?_
            refine ev_r_chk ?_
            intro c54
            refine ev_r_dr (r := r53) (fun v => [.int (Int32.ofInt x20), v]) c54 ?_
            refine ev_r_virt (pc := 77) (y := 63) (mi := 59) (na := 1) (k := (r53 - 1)) (as := [.int (Int32.ofInt x20)]) (rest := []) (encc := ev_oI) (Q := ev_bl) (fun x S1 h => jt_59 d (by omega) Q ((r53 - 1)) x20 (hr53.resolve_left c54) hx20 s27 x S1 h) (by exact (hr53.resolve_left c54)) (by decide +kernel) (by decide +kernel) (by decide +kernel) (by decide +kernel) rfl (by (try simp only [ev_sum, ev_nv_cat]); first | done | rfl) ?_
            intro x56 s55 hx56
            replace hx56 := ev_bl_rng hx56
            show ev_w _ _ _ _ _ [.int (Int32.ofInt x56)] _ _ _ _
            refine ev_r_if (pc := 80) (q := .eq) (o := 14) (t := 94) (c := x56 = 0) (by decide +kernel) (ev_k_eq hx56 ev_rng0) (by decide +kernel) ?_ ?_
            · intro c57
              exact hK94  s55 _ (by exact (ev_l1 e23 (by decide) (by decide))) (by exact (ev_l1 e24 (by decide) (by decide))) (by exact (ev_l1 e25 (by decide) (by decide)))
            · intro c57
              refine ev_r_aload_n (pc := 83) (k := 0) (v := .ref 221) trivial (by decide +kernel) (by exact (ev_l1 e23 (by decide) (by decide))) ?_
              refine ev_r_getC (pc := 84) (y := 11) (ci := 2) (f := 0) (fin := 1) (k' := 222) (by decide +kernel) (by decide +kernel) (by exact ev_ob_221) rfl rfl ?_
              refine ev_r_iload_n (pc := 87) (k := 3) (v := Int32.ofInt x20) (by decide +kernel) (by exact (ev_lk_st1 e26 (by decide) rfl)) ?_
              refine ev_r_iald (pc := 88) hx20 (by decide +kernel) (by exact ev_ab_222) ?_
              intro x58 hx58
              refine ev_r_if (pc := 89) (q := .ne) (o := 5) (t := 94) (c := x58 ≠ 0) (by decide +kernel) (ev_k_ne hx58 ev_rng0) (by decide +kernel) ?_ ?_
              · intro c59
                exact hK94  s55 _ (by exact (ev_l1 e23 (by decide) (by decide))) (by exact (ev_l1 e24 (by decide) (by decide))) (by exact (ev_l1 e25 (by decide) (by decide)))
              · intro c59
                refine ev_r_iconst (pc := 92) (k := 0) (by decide +kernel) ?_
                exact ev_r_ireturn (pc := 93) (x := 0) (v := Int32.ofInt 0) (ty := .boolean) (by decide : ev_bl 0) (by decide +kernel) (by decide +kernel) (ev_ret_bl (by decide : ev_bl 0)) rfl
      · intro K65 hK65
        refine ev_r_jn (Q := fun K => ∀ (x60 : Int) (hx60 : ev_rng x60), ∀ (x61 : Int) (hx61 : ev_rng x61), ∀ (s67 : ev_St) (w62 : List (Nat × Value)), ev_lk w62 0 = some (.ref 221) → ev_lk w62 1 = some (.int (Int32.ofInt x1)) → ev_lk w62 2 = some (.int (Int32.ofInt x60)) → ev_lk w62 3 = some (.int (Int32.ofInt x61)) → ev_w none (ev_Mof 38) d 64 w62 [] s67 (K x60 x61 s67) ev_eI ev_bl) ?_ ?_
        · intro x60 hx60 x61 hx61 s67 w62 e63 e64 e65 e66
          refine ev_r_iconst (pc := 64) (k := 0) (by decide +kernel) ?_
          exact hK65 x60 hx60 x61 hx61 0 (by decide) s67 _ (by exact e63) (by exact e64) (by exact e65) (by exact e66)
        · intro K64 hK64
          refine ev_r_if (pc := 44) (q := .eq) (o := 20) (t := 64) (c := x18 = 0) (by decide +kernel) (ev_k_eq hx18 ev_rng0) (by decide +kernel) ?_ ?_
          · intro c68
            exact hK64 x13 hx13 x16 hx16 s17 _ (by exact (ev_l1 (ev_l1 e3 (by decide) (by decide)) (by decide) (by decide))) (by exact (ev_l1 (ev_lk_st1 e4 (by decide) rfl) (by decide) (by decide))) (by exact (ev_lk_st1 ev_lk_st1_self (by decide) rfl)) (by exact ev_lk_st1_self)
          · intro c68
            refine ev_r_aload_n (pc := 47) (k := 0) (v := .ref 221) trivial (by decide +kernel) (by exact (ev_l1 (ev_l1 e3 (by decide) (by decide)) (by decide) (by decide))) ?_
            refine ev_r_getR (pc := 48) (y := 47) (ci := 2) (f := 9) (fin := 0) (t := 5) (by decide +kernel) (by decide +kernel) (by exact ev_ob_221) rfl rfl ?_
            intro r69 hr69
            have hr69 : r69 = 0 ∨ ev_isOb (r69 - 1) 5 = true := hr69
            refine ev_r_chk ?_
            intro c70
            refine ev_r_dr (r := r69) (fun v => [v]) c70 ?_
            refine ev_r_getC (pc := 51) (y := 160) (ci := 5) (f := 2) (fin := 2) (k' := ((r69 - 1) + 3)) (by decide +kernel) (by decide +kernel) (by exact (hr69.resolve_left c70)) rfl rfl ?_
            refine ev_r_iload_n (pc := 54) (k := 1) (v := Int32.ofInt x1) (by decide +kernel) (by exact (ev_l1 (ev_lk_st1 e4 (by decide) rfl) (by decide) (by decide))) ?_
            refine ev_r_iald (pc := 55) hx1 (by decide +kernel) (by exact (ev_fo_5_2 (hr69.resolve_left c70))) ?_
            intro x71 hx71
            refine ev_r_iconst (pc := 56) (k := -1) (by decide +kernel) ?_
            refine ev_r_icmp (pc := 57) (q := .ne) (o := 7) (t := 64) (c := x71 ≠ (-1)) (by decide +kernel) (ev_k_ne hx71 (by decide)) (by decide +kernel) ?_ ?_
            · intro c72
              exact hK64 x13 hx13 x16 hx16 s17 _ (by exact (ev_l1 (ev_l1 e3 (by decide) (by decide)) (by decide) (by decide))) (by exact (ev_l1 (ev_lk_st1 e4 (by decide) rfl) (by decide) (by decide))) (by exact (ev_lk_st1 ev_lk_st1_self (by decide) rfl)) (by exact ev_lk_st1_self)
            · intro c72
              refine ev_r_iconst (pc := 60) (k := 1) (by decide +kernel) ?_
              refine ev_r_goto (pc := 61) (o := 4) (t := 65) (by decide +kernel) (by decide +kernel) ?_
              exact hK65 x13 hx13 x16 hx16 1 (by decide) s17 _ (by exact (ev_l1 (ev_l1 e3 (by decide) (by decide)) (by decide) (by decide))) (by exact (ev_l1 (ev_lk_st1 e4 (by decide) rfl) (by decide) (by decide))) (by exact (ev_lk_st1 ev_lk_st1_self (by decide) rfl)) (by exact ev_lk_st1_self)
theorem jlt_38_2 (d : Nat) (hd : 2 ≤ d + 1) (Q : Nat)     : ∀ q : Nat, ∀ (x1 : Int) (hx1 : ev_rng x1), ∀ (s5 : ev_St) (w2 : List (Nat × Value)), ev_lk w2 0 = some (.ref 221) → ev_lk w2 1 = some (.int (Int32.ofInt x1)) → ev_w none (ev_Mof 38) d 2 w2 [] s5 (jl_38_2 Q   q x1 s5) ev_eI ev_bl := by
  intro q
  induction q with
  | zero =>
    intro x1 hx1 s5 w2 e3 e4
    exact ev_w_none
  | succ q ih => exact jbt_38_2 d hd Q     _ ih
/-- MendBench$Facts.isPlain()Z -/
def jm_38 (Q : Nat)  (S : ev_St) : Option ((Int) × ev_St) := jl_38_2 Q   Q 0 S
theorem jt_38 (d : Nat) (hd : 2 ≤ d) (Q : Nat)   (S : ev_St) (x : Int) (S' : ev_St) (hJ : jm_38 Q  S = some (x, S')) : ev_Ref d 38 [.ref 221] S (ev_eI x) S' (ev_bl x) := by
  obtain ⟨d, rfl⟩ : ∃ e, d = e + 1 := ⟨d - 1, by omega⟩
  refine ev_ref_of (P := ev_bl) (lv := [(0, .ref 221)]) (by decide +kernel) (by (try simp only [ev_sum, ev_nv_cat]); first | done | rfl) (by (try simp only [lv_args, ev_nv_cat]); first | done | rfl) ?_ x S' hJ
  unfold jm_38
  refine ev_r_iconst (pc := 0) (k := 0) (by decide +kernel) ?_
  refine ev_r_istore_n (pc := 1) (k := 1) (by decide +kernel) (by decide +kernel) rfl ?_
  exact jlt_38_2 d hd Q     Q 0 (by decide) S _ (by exact (ev_lk_st1 (by rfl) (by decide) rfl)) (by exact ev_lk_st1_self)
def jb_39_2 (Q : Nat)   (K2 : Int → ev_St → Option ((Int) × ev_St)) (x1 : Int) (s5 : ev_St) : Option ((Int) × ev_St) := ev_b (s5.2.2.1 221 9) fun r6 => ev_if (r6 ≠ 0) (ev_b (s5.1 ((r6 - 1)) 11) fun x8 => if x8 ≤ x1 then (some (0, s5)) else (if 400 ≤ x1 then (some (0, s5)) else (ev_b (s5.2.2.1 221 9) fun r11 => ev_if (r11 ≠ 0) (ev_if ((0 : Int) ≤ x1 ∧ x1 < (ev_aln (((r11 - 1) + 1)) : Int)) (ev_b (s5.1 (((r11 - 1) + 1)) (Int.toNat x1)) fun x13 => ev_bd (jm_61 Q x13 s5) fun x15 s14 => if x15 = 0 then (ev_ck (x1 + 1) fun x17 => K2 x17 s14) else (some (1, s14)))))))
def jl_39_2 (Q : Nat)   : Nat → Int → ev_St → Option ((Int) × ev_St)
  | 0 => fun _ _ => none
  | q + 1 => jb_39_2 Q   (jl_39_2 Q   q)
theorem jbt_39_2 (d : Nat) (hd : 2 ≤ d + 1) (Q : Nat)     (K2 : Int → ev_St → Option ((Int) × ev_St)) (hK2 : ∀ (x1 : Int) (hx1 : ev_rng x1), ∀ (s5 : ev_St) (w2 : List (Nat × Value)), ev_lk w2 0 = some (.ref 221) → ev_lk w2 1 = some (.int (Int32.ofInt x1)) → ev_w none (ev_Mof 39) d 2 w2 [] s5 (K2 x1 s5) ev_eI ev_bl) : ∀ (x1 : Int) (hx1 : ev_rng x1), ∀ (s5 : ev_St) (w2 : List (Nat × Value)), ev_lk w2 0 = some (.ref 221) → ev_lk w2 1 = some (.int (Int32.ofInt x1)) → ev_w none (ev_Mof 39) d 2 w2 [] s5 (jb_39_2 Q   K2 x1 s5) ev_eI ev_bl := by
  intro x1 hx1 s5 w2 e3 e4
  unfold jb_39_2
  refine ev_r_iload_n (pc := 2) (k := 1) (v := Int32.ofInt x1) (by decide +kernel) (by exact e4) ?_
  refine ev_r_aload_n (pc := 3) (k := 0) (v := .ref 221) trivial (by decide +kernel) (by exact e3) ?_
  refine ev_r_getR (pc := 4) (y := 47) (ci := 2) (f := 9) (fin := 0) (t := 5) (by decide +kernel) (by decide +kernel) (by exact ev_ob_221) rfl rfl ?_
  intro r6 hr6
  have hr6 : r6 = 0 ∨ ev_isOb (r6 - 1) 5 = true := hr6
  refine ev_r_chk ?_
  intro c7
  refine ev_r_dr (r := r6) (fun v => [v, .int (Int32.ofInt x1)]) c7 ?_
  refine ev_r_getI (pc := 7) (y := 51) (ci := 5) (f := 11) (fin := 0) (by decide +kernel) (by decide +kernel) (by exact (hr6.resolve_left c7)) rfl ?_
  intro x8 hx8
  refine ev_r_icmp (pc := 10) (q := .ge) (o := 33) (t := 43) (c := x8 ≤ x1) (by decide +kernel) (ev_k_ge hx1 hx8) (by decide +kernel) ?_ ?_
  · intro c9
    refine ev_r_iconst (pc := 43) (k := 0) (by decide +kernel) ?_
    exact ev_r_ireturn (pc := 44) (x := 0) (v := Int32.ofInt 0) (ty := .boolean) (by decide : ev_bl 0) (by decide +kernel) (by decide +kernel) (ev_ret_bl (by decide : ev_bl 0)) rfl
  · intro c9
    refine ev_r_iload_n (pc := 13) (k := 1) (v := Int32.ofInt x1) (by decide +kernel) (by exact e4) ?_
    refine ev_r_sipush (pc := 14) (k := 400) (by decide +kernel) (by decide +kernel) ?_
    refine ev_r_icmp (pc := 17) (q := .ge) (o := 26) (t := 43) (c := 400 ≤ x1) (by decide +kernel) (ev_k_ge hx1 (by decide)) (by decide +kernel) ?_ ?_
    · intro c10
      refine ev_r_iconst (pc := 43) (k := 0) (by decide +kernel) ?_
      exact ev_r_ireturn (pc := 44) (x := 0) (v := Int32.ofInt 0) (ty := .boolean) (by decide : ev_bl 0) (by decide +kernel) (by decide +kernel) (ev_ret_bl (by decide : ev_bl 0)) rfl
    · intro c10
      refine ev_r_aload_n (pc := 20) (k := 0) (v := .ref 221) trivial (by decide +kernel) (by exact e3) ?_
      refine ev_r_getR (pc := 21) (y := 47) (ci := 2) (f := 9) (fin := 0) (t := 5) (by decide +kernel) (by decide +kernel) (by exact ev_ob_221) rfl rfl ?_
      intro r11 hr11
      have hr11 : r11 = 0 ∨ ev_isOb (r11 - 1) 5 = true := hr11
      refine ev_r_chk ?_
      intro c12
      refine ev_r_dr (r := r11) (fun v => [v]) c12 ?_
      refine ev_r_getC (pc := 24) (y := 119) (ci := 5) (f := 0) (fin := 2) (k' := ((r11 - 1) + 1)) (by decide +kernel) (by decide +kernel) (by exact (hr11.resolve_left c12)) rfl rfl ?_
      refine ev_r_iload_n (pc := 27) (k := 1) (v := Int32.ofInt x1) (by decide +kernel) (by exact e4) ?_
      refine ev_r_iald (pc := 28) hx1 (by decide +kernel) (by exact (ev_fo_5_0 (hr11.resolve_left c12))) ?_
      intro x13 hx13
      refine ev_r_stat (pc := 29) (y := 132) (kind := 2) (mi := 61) (na := 1) (as := [.int (Int32.ofInt x13)]) (rest := []) (encc := ev_oI) (Q := ev_bl) (fun x S1 h => jt_61 d (by omega) Q x13 hx13 s5 x S1 h) (Or.inl rfl) (by decide +kernel) (by decide +kernel) (by decide +kernel) (by decide +kernel) rfl (by (try simp only [ev_sum, ev_nv_cat]); first | done | rfl) ?_
      intro x15 s14 hx15
      replace hx15 := ev_bl_rng hx15
      show ev_w _ _ _ _ _ [.int (Int32.ofInt x15)] _ _ _ _
      refine ev_r_if (pc := 32) (q := .eq) (o := 5) (t := 37) (c := x15 = 0) (by decide +kernel) (ev_k_eq hx15 ev_rng0) (by decide +kernel) ?_ ?_
      · intro c16
        refine ev_r_iinc (pc := 37) (k := 1) (c := 1) (x := x1) (by decide +kernel) (by decide +kernel) (by exact e4) (fun _ => rfl) ?_
        intro x17 hx17
        refine ev_r_goto (pc := 40) (o := (-38)) (t := 2) (by decide +kernel) (by decide +kernel) ?_
        exact hK2 x17 hx17 s14 _ (by exact (ev_lk_st1 e3 (by decide) rfl)) (by exact ev_lk_st1_self)
      · intro c16
        refine ev_r_iconst (pc := 35) (k := 1) (by decide +kernel) ?_
        exact ev_r_ireturn (pc := 36) (x := 1) (v := Int32.ofInt 1) (ty := .boolean) (by decide : ev_bl 1) (by decide +kernel) (by decide +kernel) (ev_ret_bl (by decide : ev_bl 1)) rfl
theorem jlt_39_2 (d : Nat) (hd : 2 ≤ d + 1) (Q : Nat)     : ∀ q : Nat, ∀ (x1 : Int) (hx1 : ev_rng x1), ∀ (s5 : ev_St) (w2 : List (Nat × Value)), ev_lk w2 0 = some (.ref 221) → ev_lk w2 1 = some (.int (Int32.ofInt x1)) → ev_w none (ev_Mof 39) d 2 w2 [] s5 (jl_39_2 Q   q x1 s5) ev_eI ev_bl := by
  intro q
  induction q with
  | zero =>
    intro x1 hx1 s5 w2 e3 e4
    exact ev_w_none
  | succ q ih => exact jbt_39_2 d hd Q     _ ih
/-- MendBench$Facts.hasEnds()Z -/
def jm_39 (Q : Nat)  (S : ev_St) : Option ((Int) × ev_St) := jl_39_2 Q   Q 0 S
theorem jt_39 (d : Nat) (hd : 2 ≤ d) (Q : Nat)   (S : ev_St) (x : Int) (S' : ev_St) (hJ : jm_39 Q  S = some (x, S')) : ev_Ref d 39 [.ref 221] S (ev_eI x) S' (ev_bl x) := by
  obtain ⟨d, rfl⟩ : ∃ e, d = e + 1 := ⟨d - 1, by omega⟩
  refine ev_ref_of (P := ev_bl) (lv := [(0, .ref 221)]) (by decide +kernel) (by (try simp only [ev_sum, ev_nv_cat]); first | done | rfl) (by (try simp only [lv_args, ev_nv_cat]); first | done | rfl) ?_ x S' hJ
  unfold jm_39
  refine ev_r_iconst (pc := 0) (k := 0) (by decide +kernel) ?_
  refine ev_r_istore_n (pc := 1) (k := 1) (by decide +kernel) (by decide +kernel) rfl ?_
  exact jlt_39_2 d hd Q     Q 0 (by decide) S _ (by exact (ev_lk_st1 (by rfl) (by decide) rfl)) (by exact ev_lk_st1_self)
def jb_72_79 (Q : Nat) (a0 : Nat) (a1 : Nat) (x10 : Int) (K25 : Int → ev_St → Option ((Unit) × ev_St)) (K79 : Int → Int → Int → ev_St → Option ((Unit) × ev_St)) (x27 : Int) (x28 : Int) (x29 : Int) (s37 : ev_St) : Option ((Unit) × ev_St) := ev_jn (fun  (s42 : ev_St) => ev_ck (x10 + (-1)) fun x43 => K25 x43 s42) fun K121 => if 400 ≤ x29 then (K121  s37) else (if x27 = 0 then (K121  s37) else (ev_if (a0 ≠ 0) (ev_bd (jm_59 Q ((a0 - 1)) x28 s37) fun x48 s47 => if x48 = 0 then (K121  s47) else (ev_if (a1 ≠ 0) (ev_if ((0 : Int) ≤ x28 ∧ x28 < (ev_aln ((a1 - 1)) : Int)) (ev_b (ev_pI s47 ((a1 - 1)) (Int.toNat x28) 1) fun s51 => ev_if (a0 ≠ 0) (ev_if ((0 : Int) ≤ x28 ∧ x28 < (ev_aln (((a0 - 1) + 5)) : Int)) (ev_b (s51.1 (((a0 - 1) + 5)) (Int.toNat x28)) fun x53 => ev_ck (x29 + 1) fun x54 => K79 x27 x53 x54 s51))))))))
def jl_72_79 (Q : Nat) (a0 : Nat) (a1 : Nat) (x10 : Int) (K25 : Int → ev_St → Option ((Unit) × ev_St)) : Nat → Int → Int → Int → ev_St → Option ((Unit) × ev_St)
  | 0 => fun _ _ _ _ => none
  | q + 1 => jb_72_79 Q a0 a1 x10 K25 (jl_72_79 Q a0 a1 x10 K25 q)
theorem jbt_72_79 (d : Nat) (hd : 2 ≤ d + 1) (Q : Nat) (a0 : Nat) (a1 : Nat) (x10 : Int) (ha0 : a0 = 0 ∨ ev_isOb (a0 - 1) 5 = true) (ha1 : a1 = 0 ∨ ev_isAb (a1 - 1) 1 .boolean = true) (hx10 : ev_rng x10) (K25 : Int → ev_St → Option ((Unit) × ev_St)) (hK25 : ∀ (x10 : Int) (hx10 : ev_rng x10), ∀ (s15 : ev_St) (w11 : List (Nat × Value)), ev_lk w11 1 = some (ev_nv a0) → ev_lk w11 2 = some (ev_nv a1) → ev_lk w11 4 = some (.int (Int32.ofInt x10)) → ev_w none (ev_Mof 72) d 25 w11 [] s15 (K25 x10 s15) ev_eU ev_PU) (K79 : Int → Int → Int → ev_St → Option ((Unit) × ev_St)) (hK79 : ∀ (x27 : Int) (hx27 : ev_rng x27), ∀ (x28 : Int) (hx28 : ev_rng x28), ∀ (x29 : Int) (hx29 : ev_rng x29), ∀ (s37 : ev_St) (w30 : List (Nat × Value)), ev_lk w30 1 = some (ev_nv a0) → ev_lk w30 2 = some (ev_nv a1) → ev_lk w30 4 = some (.int (Int32.ofInt x10)) → ev_lk w30 5 = some (.int (Int32.ofInt x27)) → ev_lk w30 6 = some (.int (Int32.ofInt x28)) → ev_lk w30 7 = some (.int (Int32.ofInt x29)) → ev_w none (ev_Mof 72) d 79 w30 [] s37 (K79 x27 x28 x29 s37) ev_eU ev_PU) : ∀ (x27 : Int) (hx27 : ev_rng x27), ∀ (x28 : Int) (hx28 : ev_rng x28), ∀ (x29 : Int) (hx29 : ev_rng x29), ∀ (s37 : ev_St) (w30 : List (Nat × Value)), ev_lk w30 1 = some (ev_nv a0) → ev_lk w30 2 = some (ev_nv a1) → ev_lk w30 4 = some (.int (Int32.ofInt x10)) → ev_lk w30 5 = some (.int (Int32.ofInt x27)) → ev_lk w30 6 = some (.int (Int32.ofInt x28)) → ev_lk w30 7 = some (.int (Int32.ofInt x29)) → ev_w none (ev_Mof 72) d 79 w30 [] s37 (jb_72_79 Q a0 a1 x10 K25 K79 x27 x28 x29 s37) ev_eU ev_PU := by
  intro x27 hx27 x28 hx28 x29 hx29 s37 w30 e31 e32 e33 e34 e35 e36
  unfold jb_72_79
  refine ev_r_iload (pc := 79) (k := 7) (v := Int32.ofInt x29) (by decide +kernel) (by exact e36) ?_
  refine ev_r_sipush (pc := 81) (k := 400) (by decide +kernel) (by decide +kernel) ?_
  refine ev_r_jn (Q := fun K => ∀ (s42 : ev_St) (w38 : List (Nat × Value)), ev_lk w38 1 = some (ev_nv a0) → ev_lk w38 2 = some (ev_nv a1) → ev_lk w38 4 = some (.int (Int32.ofInt x10)) → ev_w none (ev_Mof 72) d 121 w38 [] s42 (K  s42) ev_eU ev_PU) ?_ ?_
  · intro  s42 w38 e39 e40 e41
    refine ev_r_iinc (pc := 121) (k := 4) (c := -1) (x := x10) (by decide +kernel) (by decide +kernel) (by exact e41) (fun _ => rfl) ?_
    intro x43 hx43
    refine ev_r_goto (pc := 124) (o := (-99)) (t := 25) (by decide +kernel) (by decide +kernel) ?_
    exact hK25 x43 hx43 s42 _ (by exact (ev_l1 e39 (by decide) (by decide))) (by exact (ev_l1 e40 (by decide) (by decide))) (by exact ev_lk_st1_self)
  · intro K121 hK121
    refine ev_r_icmp (pc := 84) (q := .ge) (o := 37) (t := 121) (c := 400 ≤ x29) (by decide +kernel) (ev_k_ge hx29 (by decide)) (by decide +kernel) ?_ ?_
    · intro c44
      exact hK121  s37 _ (by exact e31) (by exact e32) (by exact e33)
    · intro c44
      refine ev_r_iload (pc := 87) (k := 5) (v := Int32.ofInt x27) (by decide +kernel) (by exact e34) ?_
      refine ev_r_if (pc := 89) (q := .eq) (o := 32) (t := 121) (c := x27 = 0) (by decide +kernel) (ev_k_eq hx27 ev_rng0) (by decide +kernel) ?_ ?_
      · intro c45
        exact hK121  s37 _ (by exact e31) (by exact e32) (by exact e33)
      · intro c45
        refine ev_r_aload_n (pc := 92) (k := 1) (v := ev_nv a0) (ev_isR_nv _) (by decide +kernel) (by exact e31) ?_
        refine ev_r_iload (pc := 93) (k := 6) (v := Int32.ofInt x28) (by decide +kernel) (by exact e35) ?_
        refine ev_r_chk ?_
        intro c46
        refine ev_r_dr (r := a0) (fun v => [.int (Int32.ofInt x28), v]) c46 ?_
        refine ev_r_virt (pc := 95) (y := 70) (mi := 59) (na := 1) (k := (a0 - 1)) (as := [.int (Int32.ofInt x28)]) (rest := []) (encc := ev_oI) (Q := ev_bl) (fun x S1 h => jt_59 d (by omega) Q ((a0 - 1)) x28 (ha0.resolve_left c46) hx28 s37 x S1 h) (by exact (ha0.resolve_left c46)) (by decide +kernel) (by decide +kernel) (by decide +kernel) (by decide +kernel) rfl (by (try simp only [ev_sum, ev_nv_cat]); first | done | rfl) ?_
        intro x48 s47 hx48
        replace hx48 := ev_bl_rng hx48
        show ev_w _ _ _ _ _ [.int (Int32.ofInt x48)] _ _ _ _
        refine ev_r_if (pc := 98) (q := .eq) (o := 23) (t := 121) (c := x48 = 0) (by decide +kernel) (ev_k_eq hx48 ev_rng0) (by decide +kernel) ?_ ?_
        · intro c49
          exact hK121  s47 _ (by exact e31) (by exact e32) (by exact e33)
        · intro c49
          refine ev_r_aload_n (pc := 101) (k := 2) (v := ev_nv a1) (ev_isR_nv _) (by decide +kernel) (by exact e32) ?_
          refine ev_r_iload (pc := 102) (k := 6) (v := Int32.ofInt x28) (by decide +kernel) (by exact e35) ?_
          refine ev_r_iconst (pc := 104) (k := 1) (by decide +kernel) ?_
          refine ev_r_chk ?_
          intro c50
          refine ev_r_dr (r := a1) (fun v => [.int (Int32.ofInt 1), .int (Int32.ofInt x28), v]) c50 ?_
          refine ev_r_bast (pc := 105) (ty := .boolean) (Or.inr rfl) (ev_nar_bl (by decide : ev_bl 1)) (by decide) hx28 (by decide +kernel) (by exact (ha1.resolve_left c50)) ?_
          intro s51
          refine ev_r_aload_n (pc := 106) (k := 1) (v := ev_nv a0) (ev_isR_nv _) (by decide +kernel) (by exact e31) ?_
          refine ev_r_chk ?_
          intro c52
          refine ev_r_dr (r := a0) (fun v => [v]) c52 ?_
          refine ev_r_getC (pc := 107) (y := 73) (ci := 5) (f := 4) (fin := 2) (k' := ((a0 - 1) + 5)) (by decide +kernel) (by decide +kernel) (by exact (ha0.resolve_left c52)) rfl rfl ?_
          refine ev_r_iload (pc := 110) (k := 6) (v := Int32.ofInt x28) (by decide +kernel) (by exact e35) ?_
          refine ev_r_iald (pc := 112) hx28 (by decide +kernel) (by exact (ev_fo_5_4 (ha0.resolve_left c52))) ?_
          intro x53 hx53
          refine ev_r_istore (pc := 113) (k := 6) (by decide +kernel) (by decide +kernel) rfl ?_
          refine ev_r_iinc (pc := 115) (k := 7) (c := 1) (x := x29) (by decide +kernel) (by decide +kernel) (by exact (ev_l1 e36 (by decide) (by decide))) (fun _ => rfl) ?_
          intro x54 hx54
          refine ev_r_goto (pc := 118) (o := (-39)) (t := 79) (by decide +kernel) (by decide +kernel) ?_
          exact hK79 x27 hx27 x53 hx53 x54 hx54 s51 _ (by exact (ev_l1 (ev_l1 e31 (by decide) (by decide)) (by decide) (by decide))) (by exact (ev_l1 (ev_l1 e32 (by decide) (by decide)) (by decide) (by decide))) (by exact (ev_l1 (ev_l1 e33 (by decide) (by decide)) (by decide) (by decide))) (by exact (ev_l1 (ev_lk_st1 e34 (by decide) rfl) (by decide) (by decide))) (by exact (ev_lk_st1 ev_lk_st1_self (by decide) rfl)) (by exact ev_lk_st1_self)
theorem jlt_72_79 (d : Nat) (hd : 2 ≤ d + 1) (Q : Nat) (a0 : Nat) (a1 : Nat) (x10 : Int) (ha0 : a0 = 0 ∨ ev_isOb (a0 - 1) 5 = true) (ha1 : a1 = 0 ∨ ev_isAb (a1 - 1) 1 .boolean = true) (hx10 : ev_rng x10) (K25 : Int → ev_St → Option ((Unit) × ev_St)) (hK25 : ∀ (x10 : Int) (hx10 : ev_rng x10), ∀ (s15 : ev_St) (w11 : List (Nat × Value)), ev_lk w11 1 = some (ev_nv a0) → ev_lk w11 2 = some (ev_nv a1) → ev_lk w11 4 = some (.int (Int32.ofInt x10)) → ev_w none (ev_Mof 72) d 25 w11 [] s15 (K25 x10 s15) ev_eU ev_PU) : ∀ q : Nat, ∀ (x27 : Int) (hx27 : ev_rng x27), ∀ (x28 : Int) (hx28 : ev_rng x28), ∀ (x29 : Int) (hx29 : ev_rng x29), ∀ (s37 : ev_St) (w30 : List (Nat × Value)), ev_lk w30 1 = some (ev_nv a0) → ev_lk w30 2 = some (ev_nv a1) → ev_lk w30 4 = some (.int (Int32.ofInt x10)) → ev_lk w30 5 = some (.int (Int32.ofInt x27)) → ev_lk w30 6 = some (.int (Int32.ofInt x28)) → ev_lk w30 7 = some (.int (Int32.ofInt x29)) → ev_w none (ev_Mof 72) d 79 w30 [] s37 (jl_72_79 Q a0 a1 x10 K25 q x27 x28 x29 s37) ev_eU ev_PU := by
  intro q
  induction q with
  | zero =>
    intro x27 hx27 x28 hx28 x29 hx29 s37 w30 e31 e32 e33 e34 e35 e36
    exact ev_w_none
  | succ q ih => exact jbt_72_79 d hd Q a0 a1 x10 ha0 ha1 hx10 K25 hK25 _ ih
def jb_72_25 (Q : Nat) (a0 : Nat) (a1 : Nat)  (K25 : Int → ev_St → Option ((Unit) × ev_St)) (x10 : Int) (s15 : ev_St) : Option ((Unit) × ev_St) := if x10 < 0 then (some ((), s15)) else (ev_if (a1 ≠ 0) (ev_if ((0 : Int) ≤ x10 ∧ x10 < (ev_aln ((a1 - 1)) : Int)) (ev_b (s15.1 ((a1 - 1)) (Int.toNat x10)) fun x18 => ev_jn (fun (x19 : Int) (s24 : ev_St) => ev_if (a0 ≠ 0) (ev_if ((0 : Int) ≤ x10 ∧ x10 < (ev_aln (((a0 - 1) + 4)) : Int)) (ev_b (s24.1 (((a0 - 1) + 4)) (Int.toNat x10)) fun x26 => jl_72_79 Q a0 a1 x10 K25 Q x19 x26 0 s24))) fun K65 => ev_jn (fun  (s59 : ev_St) => K65 1 s59) fun K60 => if x18 ≠ 0 then (K60  s15) else (ev_if (a0 ≠ 0) (ev_if ((0 : Int) ≤ x10 ∧ x10 < (ev_aln (((a0 - 1) + 1)) : Int)) (ev_b (s15.1 (((a0 - 1) + 1)) (Int.toNat x10)) fun x62 => ev_bd (jm_62 Q x62 s15) fun x64 s63 => ev_jn (fun  (s69 : ev_St) => K65 0 s69) fun K64 => if x64 = 0 then (K64  s63) else (ev_if (a0 ≠ 0) (ev_if ((0 : Int) ≤ x10 ∧ x10 < (ev_aln (((a0 - 1) + 3)) : Int)) (ev_b (s63.1 (((a0 - 1) + 3)) (Int.toNat x10)) fun x72 => if x72 ≠ 0 then (K64  s63) else (K60  s63))))))))))
def jl_72_25 (Q : Nat) (a0 : Nat) (a1 : Nat)  : Nat → Int → ev_St → Option ((Unit) × ev_St)
  | 0 => fun _ _ => none
  | q + 1 => jb_72_25 Q a0 a1  (jl_72_25 Q a0 a1  q)
theorem jbt_72_25 (d : Nat) (hd : 2 ≤ d + 1) (Q : Nat) (a0 : Nat) (a1 : Nat) (ha0 : a0 = 0 ∨ ev_isOb (a0 - 1) 5 = true) (ha1 : a1 = 0 ∨ ev_isAb (a1 - 1) 1 .boolean = true)   (K25 : Int → ev_St → Option ((Unit) × ev_St)) (hK25 : ∀ (x10 : Int) (hx10 : ev_rng x10), ∀ (s15 : ev_St) (w11 : List (Nat × Value)), ev_lk w11 1 = some (ev_nv a0) → ev_lk w11 2 = some (ev_nv a1) → ev_lk w11 4 = some (.int (Int32.ofInt x10)) → ev_w none (ev_Mof 72) d 25 w11 [] s15 (K25 x10 s15) ev_eU ev_PU) : ∀ (x10 : Int) (hx10 : ev_rng x10), ∀ (s15 : ev_St) (w11 : List (Nat × Value)), ev_lk w11 1 = some (ev_nv a0) → ev_lk w11 2 = some (ev_nv a1) → ev_lk w11 4 = some (.int (Int32.ofInt x10)) → ev_w none (ev_Mof 72) d 25 w11 [] s15 (jb_72_25 Q a0 a1  K25 x10 s15) ev_eU ev_PU := by
  intro x10 hx10 s15 w11 e12 e13 e14
  unfold jb_72_25
  refine ev_r_iload (pc := 25) (k := 4) (v := Int32.ofInt x10) (by decide +kernel) (by exact e14) ?_
  refine ev_r_if (pc := 27) (q := .lt) (o := 100) (t := 127) (c := x10 < 0) (by decide +kernel) (ev_k_lt hx10 ev_rng0) (by decide +kernel) ?_ ?_
  · intro c16
    exact ev_r_return (pc := 127) (x := ()) trivial (by decide +kernel) (by decide +kernel) rfl
  · intro c16
    refine ev_r_aload_n (pc := 30) (k := 2) (v := ev_nv a1) (ev_isR_nv _) (by decide +kernel) (by exact e13) ?_
    refine ev_r_iload (pc := 31) (k := 4) (v := Int32.ofInt x10) (by decide +kernel) (by exact e14) ?_
    refine ev_r_chk ?_
    intro c17
    refine ev_r_dr (r := a1) (fun v => [.int (Int32.ofInt x10), v]) c17 ?_
    refine ev_r_bald (pc := 33) (ty := .boolean) (Or.inr rfl) hx10 (by decide +kernel) (by exact (ha1.resolve_left c17)) ?_
    intro x18 hx18
    refine ev_r_jn (Q := fun K => ∀ (x19 : Int) (hx19 : ev_rng x19), ∀ (s24 : ev_St) (w20 : List (Nat × Value)), ev_lk w20 1 = some (ev_nv a0) → ev_lk w20 2 = some (ev_nv a1) → ev_lk w20 4 = some (.int (Int32.ofInt x10)) → ev_w none (ev_Mof 72) d 65 w20 [.int (Int32.ofInt x19)] s24 (K x19 s24) ev_eU ev_PU) ?_ ?_
    · intro x19 hx19 s24 w20 e21 e22 e23
      refine ev_r_istore (pc := 65) (k := 5) (by decide +kernel) (by decide +kernel) rfl ?_
      refine ev_r_aload_n (pc := 67) (k := 1) (v := ev_nv a0) (ev_isR_nv _) (by decide +kernel) (by exact (ev_l1 e21 (by decide) (by decide))) ?_
      refine ev_r_chk ?_
      intro c25
      refine ev_r_dr (r := a0) (fun v => [v]) c25 ?_
      refine ev_r_getC (pc := 68) (y := 67) (ci := 5) (f := 3) (fin := 2) (k' := ((a0 - 1) + 4)) (by decide +kernel) (by decide +kernel) (by exact (ha0.resolve_left c25)) rfl rfl ?_
      refine ev_r_iload (pc := 71) (k := 4) (v := Int32.ofInt x10) (by decide +kernel) (by exact (ev_lk_st1 e23 (by decide) rfl)) ?_
      refine ev_r_iald (pc := 73) hx10 (by decide +kernel) (by exact (ev_fo_5_3 (ha0.resolve_left c25))) ?_
      intro x26 hx26
      refine ev_r_istore (pc := 74) (k := 6) (by decide +kernel) (by decide +kernel) rfl ?_
      refine ev_r_iconst (pc := 76) (k := 0) (by decide +kernel) ?_
      refine ev_r_istore (pc := 77) (k := 7) (by decide +kernel) (by decide +kernel) rfl ?_
      exact jlt_72_79 d hd Q a0 a1 x10 ha0 ha1 hx10 K25 hK25 Q x19 hx19 x26 hx26 0 (by decide) s24 _ (by exact (ev_l1 (ev_l1 (ev_l1 e21 (by decide) (by decide)) (by decide) (by decide)) (by decide) (by decide))) (by exact (ev_l1 (ev_l1 (ev_l1 e22 (by decide) (by decide)) (by decide) (by decide)) (by decide) (by decide))) (by exact (ev_l1 (ev_l1 (ev_lk_st1 e23 (by decide) rfl) (by decide) (by decide)) (by decide) (by decide))) (by exact (ev_l1 (ev_lk_st1 ev_lk_st1_self (by decide) rfl) (by decide) (by decide))) (by exact (ev_lk_st1 ev_lk_st1_self (by decide) rfl)) (by exact ev_lk_st1_self)
    · intro K65 hK65
      refine ev_r_jn (Q := fun K => ∀ (s59 : ev_St) (w55 : List (Nat × Value)), ev_lk w55 1 = some (ev_nv a0) → ev_lk w55 2 = some (ev_nv a1) → ev_lk w55 4 = some (.int (Int32.ofInt x10)) → ev_w none (ev_Mof 72) d 60 w55 [] s59 (K  s59) ev_eU ev_PU) ?_ ?_
      · intro  s59 w55 e56 e57 e58
        refine ev_r_iconst (pc := 60) (k := 1) (by decide +kernel) ?_
        refine ev_r_goto (pc := 61) (o := 4) (t := 65) (by decide +kernel) (by decide +kernel) ?_
        exact hK65 1 (by decide) s59 _ (by exact e56) (by exact e57) (by exact e58)
      · intro K60 hK60
        refine ev_r_if (pc := 34) (q := .ne) (o := 26) (t := 60) (c := x18 ≠ 0) (by decide +kernel) (ev_k_ne hx18 ev_rng0) (by decide +kernel) ?_ ?_
        · intro c60
          exact hK60  s15 _ (by exact e12) (by exact e13) (by exact e14)
        · intro c60
          refine ev_r_aload_n (pc := 37) (k := 1) (v := ev_nv a0) (ev_isR_nv _) (by decide +kernel) (by exact e12) ?_
          refine ev_r_chk ?_
          intro c61
          refine ev_r_dr (r := a0) (fun v => [v]) c61 ?_
          refine ev_r_getC (pc := 38) (y := 57) (ci := 5) (f := 0) (fin := 2) (k' := ((a0 - 1) + 1)) (by decide +kernel) (by decide +kernel) (by exact (ha0.resolve_left c61)) rfl rfl ?_
          refine ev_r_iload (pc := 41) (k := 4) (v := Int32.ofInt x10) (by decide +kernel) (by exact e14) ?_
          refine ev_r_iald (pc := 43) hx10 (by decide +kernel) (by exact (ev_fo_5_0 (ha0.resolve_left c61))) ?_
          intro x62 hx62
          refine ev_r_stat (pc := 44) (y := 60) (kind := 2) (mi := 62) (na := 1) (as := [.int (Int32.ofInt x62)]) (rest := []) (encc := ev_oI) (Q := ev_bl) (fun x S1 h => jt_62 d (by omega) Q x62 hx62 s15 x S1 h) (Or.inl rfl) (by decide +kernel) (by decide +kernel) (by decide +kernel) (by decide +kernel) rfl (by (try simp only [ev_sum, ev_nv_cat]); first | done | rfl) ?_
          intro x64 s63 hx64
          replace hx64 := ev_bl_rng hx64
          show ev_w _ _ _ _ _ [.int (Int32.ofInt x64)] _ _ _ _
          refine ev_r_jn (Q := fun K => ∀ (s69 : ev_St) (w65 : List (Nat × Value)), ev_lk w65 1 = some (ev_nv a0) → ev_lk w65 2 = some (ev_nv a1) → ev_lk w65 4 = some (.int (Int32.ofInt x10)) → ev_w none (ev_Mof 72) d 64 w65 [] s69 (K  s69) ev_eU ev_PU) ?_ ?_
          · intro  s69 w65 e66 e67 e68
            refine ev_r_iconst (pc := 64) (k := 0) (by decide +kernel) ?_
            exact hK65 0 (by decide) s69 _ (by exact e66) (by exact e67) (by exact e68)
          · intro K64 hK64
            refine ev_r_if (pc := 47) (q := .eq) (o := 17) (t := 64) (c := x64 = 0) (by decide +kernel) (ev_k_eq hx64 ev_rng0) (by decide +kernel) ?_ ?_
            · intro c70
              exact hK64  s63 _ (by exact e12) (by exact e13) (by exact e14)
            · intro c70
              refine ev_r_aload_n (pc := 50) (k := 1) (v := ev_nv a0) (ev_isR_nv _) (by decide +kernel) (by exact e12) ?_
              refine ev_r_chk ?_
              intro c71
              refine ev_r_dr (r := a0) (fun v => [v]) c71 ?_
              refine ev_r_getC (pc := 51) (y := 64) (ci := 5) (f := 2) (fin := 2) (k' := ((a0 - 1) + 3)) (by decide +kernel) (by decide +kernel) (by exact (ha0.resolve_left c71)) rfl rfl ?_
              refine ev_r_iload (pc := 54) (k := 4) (v := Int32.ofInt x10) (by decide +kernel) (by exact e14) ?_
              refine ev_r_iald (pc := 56) hx10 (by decide +kernel) (by exact (ev_fo_5_2 (ha0.resolve_left c71))) ?_
              intro x72 hx72
              refine ev_r_if (pc := 57) (q := .ne) (o := 7) (t := 64) (c := x72 ≠ 0) (by decide +kernel) (ev_k_ne hx72 ev_rng0) (by decide +kernel) ?_ ?_
              · intro c73
                exact hK64  s63 _ (by exact e12) (by exact e13) (by exact e14)
              · intro c73
                exact hK60  s63 _ (by exact e12) (by exact e13) (by exact e14)
theorem jlt_72_25 (d : Nat) (hd : 2 ≤ d + 1) (Q : Nat) (a0 : Nat) (a1 : Nat) (ha0 : a0 = 0 ∨ ev_isOb (a0 - 1) 5 = true) (ha1 : a1 = 0 ∨ ev_isAb (a1 - 1) 1 .boolean = true)   : ∀ q : Nat, ∀ (x10 : Int) (hx10 : ev_rng x10), ∀ (s15 : ev_St) (w11 : List (Nat × Value)), ev_lk w11 1 = some (ev_nv a0) → ev_lk w11 2 = some (ev_nv a1) → ev_lk w11 4 = some (.int (Int32.ofInt x10)) → ev_w none (ev_Mof 72) d 25 w11 [] s15 (jl_72_25 Q a0 a1  q x10 s15) ev_eU ev_PU := by
  intro q
  induction q with
  | zero =>
    intro x10 hx10 s15 w11 e12 e13 e14
    exact ev_w_none
  | succ q ih => exact jbt_72_25 d hd Q a0 a1 ha0 ha1   _ ih
def jb_72_3 (Q : Nat) (k : Nat) (a0 : Nat) (a1 : Nat) (a2 : Int)  (K3 : Int → ev_St → Option ((Unit) × ev_St)) (x1 : Int) (s7 : ev_St) : Option ((Unit) × ev_St) := if a2 ≤ x1 then (ev_ck (a2 - 1) fun x9 => jl_72_25 Q a0 a1  Q x9 s7) else (ev_if (a1 ≠ 0) (ev_if ((0 : Int) ≤ x1 ∧ x1 < (ev_aln ((a1 - 1)) : Int)) (ev_b (ev_pI s7 ((a1 - 1)) (Int.toNat x1) 0) fun s75 => ev_ck (x1 + 1) fun x76 => K3 x76 s75)))
def jl_72_3 (Q : Nat) (k : Nat) (a0 : Nat) (a1 : Nat) (a2 : Int)  : Nat → Int → ev_St → Option ((Unit) × ev_St)
  | 0 => fun _ _ => none
  | q + 1 => jb_72_3 Q k a0 a1 a2  (jl_72_3 Q k a0 a1 a2  q)
theorem jbt_72_3 (d : Nat) (hd : 2 ≤ d + 1) (Q : Nat) (k : Nat) (a0 : Nat) (a1 : Nat) (a2 : Int) (hk : ev_isOb k 6 = true) (ha0 : a0 = 0 ∨ ev_isOb (a0 - 1) 5 = true) (ha1 : a1 = 0 ∨ ev_isAb (a1 - 1) 1 .boolean = true) (ha2 : ev_rng a2)   (K3 : Int → ev_St → Option ((Unit) × ev_St)) (hK3 : ∀ (x1 : Int) (hx1 : ev_rng x1), ∀ (s7 : ev_St) (w2 : List (Nat × Value)), ev_lk w2 1 = some (ev_nv a0) → ev_lk w2 2 = some (ev_nv a1) → ev_lk w2 3 = some (.int (Int32.ofInt a2)) → ev_lk w2 4 = some (.int (Int32.ofInt x1)) → ev_w none (ev_Mof 72) d 3 w2 [] s7 (K3 x1 s7) ev_eU ev_PU) : ∀ (x1 : Int) (hx1 : ev_rng x1), ∀ (s7 : ev_St) (w2 : List (Nat × Value)), ev_lk w2 1 = some (ev_nv a0) → ev_lk w2 2 = some (ev_nv a1) → ev_lk w2 3 = some (.int (Int32.ofInt a2)) → ev_lk w2 4 = some (.int (Int32.ofInt x1)) → ev_w none (ev_Mof 72) d 3 w2 [] s7 (jb_72_3 Q k a0 a1 a2  K3 x1 s7) ev_eU ev_PU := by
  intro x1 hx1 s7 w2 e3 e4 e5 e6
  unfold jb_72_3
  refine ev_r_iload (pc := 3) (k := 4) (v := Int32.ofInt x1) (by decide +kernel) (by exact e6) ?_
  refine ev_r_iload_n (pc := 5) (k := 3) (v := Int32.ofInt a2) (by decide +kernel) (by exact e5) ?_
  refine ev_r_icmp (pc := 6) (q := .ge) (o := 14) (t := 20) (c := a2 ≤ x1) (by decide +kernel) (ev_k_ge hx1 ha2) (by decide +kernel) ?_ ?_
  · intro c8
    refine ev_r_iload_n (pc := 20) (k := 3) (v := Int32.ofInt a2) (by decide +kernel) (by exact e5) ?_
    refine ev_r_iconst (pc := 21) (k := 1) (by decide +kernel) ?_
    refine ev_r_isub (pc := 22) (by decide +kernel) ?_
    intro x9 hx9
    refine ev_r_istore (pc := 23) (k := 4) (by decide +kernel) (by decide +kernel) rfl ?_
    exact jlt_72_25 d hd Q a0 a1 ha0 ha1   Q x9 hx9 s7 _ (by exact (ev_l1 e3 (by decide) (by decide))) (by exact (ev_l1 e4 (by decide) (by decide))) (by exact ev_lk_st1_self)
  · intro c8
    refine ev_r_aload_n (pc := 9) (k := 2) (v := ev_nv a1) (ev_isR_nv _) (by decide +kernel) (by exact e4) ?_
    refine ev_r_iload (pc := 10) (k := 4) (v := Int32.ofInt x1) (by decide +kernel) (by exact e6) ?_
    refine ev_r_iconst (pc := 12) (k := 0) (by decide +kernel) ?_
    refine ev_r_chk ?_
    intro c74
    refine ev_r_dr (r := a1) (fun v => [.int (Int32.ofInt 0), .int (Int32.ofInt x1), v]) c74 ?_
    refine ev_r_bast (pc := 13) (ty := .boolean) (Or.inr rfl) (ev_nar_bl (by decide : ev_bl 0)) (by decide) hx1 (by decide +kernel) (by exact (ha1.resolve_left c74)) ?_
    intro s75
    refine ev_r_iinc (pc := 14) (k := 4) (c := 1) (x := x1) (by decide +kernel) (by decide +kernel) (by exact e6) (fun _ => rfl) ?_
    intro x76 hx76
    refine ev_r_goto (pc := 17) (o := (-14)) (t := 3) (by decide +kernel) (by decide +kernel) ?_
    exact hK3 x76 hx76 s75 _ (by exact (ev_l1 e3 (by decide) (by decide))) (by exact (ev_l1 e4 (by decide) (by decide))) (by exact (ev_lk_st1 e5 (by decide) rfl)) (by exact ev_lk_st1_self)
theorem jlt_72_3 (d : Nat) (hd : 2 ≤ d + 1) (Q : Nat) (k : Nat) (a0 : Nat) (a1 : Nat) (a2 : Int) (hk : ev_isOb k 6 = true) (ha0 : a0 = 0 ∨ ev_isOb (a0 - 1) 5 = true) (ha1 : a1 = 0 ∨ ev_isAb (a1 - 1) 1 .boolean = true) (ha2 : ev_rng a2)   : ∀ q : Nat, ∀ (x1 : Int) (hx1 : ev_rng x1), ∀ (s7 : ev_St) (w2 : List (Nat × Value)), ev_lk w2 1 = some (ev_nv a0) → ev_lk w2 2 = some (ev_nv a1) → ev_lk w2 3 = some (.int (Int32.ofInt a2)) → ev_lk w2 4 = some (.int (Int32.ofInt x1)) → ev_w none (ev_Mof 72) d 3 w2 [] s7 (jl_72_3 Q k a0 a1 a2  q x1 s7) ev_eU ev_PU := by
  intro q
  induction q with
  | zero =>
    intro x1 hx1 s7 w2 e3 e4 e5 e6
    exact ev_w_none
  | succ q ih => exact jbt_72_3 d hd Q k a0 a1 a2 hk ha0 ha1 ha2   _ ih
/-- MendBench$Program.findNever(LMendBench$Pattern;[ZI)V -/
def jm_72 (Q : Nat) (k : Nat) (a0 : Nat) (a1 : Nat) (a2 : Int) (S : ev_St) : Option ((Unit) × ev_St) := jl_72_3 Q k a0 a1 a2  Q 0 S
theorem jt_72 (d : Nat) (hd : 2 ≤ d) (Q : Nat) (k : Nat) (a0 : Nat) (a1 : Nat) (a2 : Int) (hk : ev_isOb k 6 = true) (ha0 : a0 = 0 ∨ ev_isOb (a0 - 1) 5 = true) (ha1 : a1 = 0 ∨ ev_isAb (a1 - 1) 1 .boolean = true) (ha2 : ev_rng a2) (S : ev_St) (x : Unit) (S' : ev_St) (hJ : jm_72 Q k a0 a1 a2 S = some (x, S')) : ev_Ref d 72 [.ref k, ev_nv a0, ev_nv a1, .int (Int32.ofInt a2)] S (ev_eU x) S' (ev_PU x) := by
  obtain ⟨d, rfl⟩ : ∃ e, d = e + 1 := ⟨d - 1, by omega⟩
  refine ev_ref_of (P := ev_PU) (lv := [(0, .ref k), (1, ev_nv a0), (2, ev_nv a1), (3, .int (Int32.ofInt a2))]) (by decide +kernel) (by (try simp only [ev_sum, ev_nv_cat]); first | done | rfl) (by (try simp only [lv_args, ev_nv_cat]); first | done | rfl) ?_ x S' hJ
  unfold jm_72
  refine ev_r_iconst (pc := 0) (k := 0) (by decide +kernel) ?_
  refine ev_r_istore (pc := 1) (k := 4) (by decide +kernel) (by decide +kernel) rfl ?_
  exact jlt_72_3 d hd Q k a0 a1 a2 hk ha0 ha1 ha2   Q 0 (by decide) S _ (by exact (ev_l1 (by rfl) (by decide) (by decide))) (by exact (ev_l1 (by rfl) (by decide) (by decide))) (by exact (ev_lk_st1 (by rfl) (by decide) rfl)) (by exact ev_lk_st1_self)
/-- MendBench$Program.add(IIJJ)V -/
def jm_76 (Q : Nat) (k : Nat) (a0 : Int) (a1 : Int) (a2 : Int64) (a3 : Int64) (S : ev_St) : Option ((Unit) × ev_St) := ev_b (S.1 k 5) fun x1 => if x1 < 0 then (some ((), S)) else (ev_b (S.1 k 5) fun x3 => if 208 ≤ x3 then (some ((), S)) else (ev_b (S.1 k 5) fun x5 => ev_if ((0 : Int) ≤ x5 ∧ x5 < (ev_aln ((k + 1)) : Int)) (ev_b (ev_pI S ((k + 1)) (Int.toNat x5) a0) fun s6 => ev_b (s6.1 k 5) fun x7 => ev_if ((0 : Int) ≤ x7 ∧ x7 < (ev_aln ((k + 2)) : Int)) (ev_b (ev_pI s6 ((k + 2)) (Int.toNat x7) a1) fun s8 => ev_b (s8.1 k 5) fun x9 => ev_if ((0 : Int) ≤ x9 ∧ x9 < (ev_aln ((k + 3)) : Int)) (ev_b (ev_pL s8 ((k + 3)) (Int.toNat x9) a2) fun s10 => ev_b (s10.1 k 5) fun x11 => ev_if ((0 : Int) ≤ x11 ∧ x11 < (ev_aln ((k + 4)) : Int)) (ev_b (ev_pL s10 ((k + 4)) (Int.toNat x11) a3) fun s12 => ev_b (s12.1 k 5) fun x13 => ev_ck (x13 + 1) fun x14 => ev_b (ev_pI s12 k 5 x14) fun s15 => some ((), s15)))))))
theorem jt_76 (d : Nat) (hd : 1 ≤ d) (Q : Nat) (k : Nat) (a0 : Int) (a1 : Int) (a2 : Int64) (a3 : Int64) (hk : ev_isOb k 6 = true) (ha0 : ev_rng a0) (ha1 : ev_rng a1) (S : ev_St) (x : Unit) (S' : ev_St) (hJ : jm_76 Q k a0 a1 a2 a3 S = some (x, S')) : ev_Ref d 76 [.ref k, .int (Int32.ofInt a0), .int (Int32.ofInt a1), .long a2, .long a3] S (ev_eU x) S' (ev_PU x) := by
  obtain ⟨d, rfl⟩ : ∃ e, d = e + 1 := ⟨d - 1, by omega⟩
  refine ev_ref_of (P := ev_PU) (lv := [(0, .ref k), (1, .int (Int32.ofInt a0)), (2, .int (Int32.ofInt a1)), (3, .long a2), (5, .long a3)]) (by decide +kernel) (by (try simp only [ev_sum, ev_nv_cat]); first | done | rfl) (by (try simp only [lv_args, ev_nv_cat]); first | done | rfl) ?_ x S' hJ
  unfold jm_76
  refine ev_r_aload_n (pc := 0) (k := 0) (v := .ref k) trivial (by decide +kernel) (by rfl) ?_
  refine ev_r_getI (pc := 1) (y := 29) (ci := 6) (f := 5) (fin := 0) (by decide +kernel) (by decide +kernel) (by exact hk) rfl ?_
  intro x1 hx1
  refine ev_r_if (pc := 4) (q := .lt) (o := 64) (t := 68) (c := x1 < 0) (by decide +kernel) (ev_k_lt hx1 ev_rng0) (by decide +kernel) ?_ ?_
  · intro c2
    exact ev_r_return (pc := 68) (x := ()) trivial (by decide +kernel) (by decide +kernel) rfl
  · intro c2
    refine ev_r_aload_n (pc := 7) (k := 0) (v := .ref k) trivial (by decide +kernel) (by rfl) ?_
    refine ev_r_getI (pc := 8) (y := 29) (ci := 6) (f := 5) (fin := 0) (by decide +kernel) (by decide +kernel) (by exact hk) rfl ?_
    intro x3 hx3
    refine ev_r_sipush (pc := 11) (k := 208) (by decide +kernel) (by decide +kernel) ?_
    refine ev_r_icmp (pc := 14) (q := .ge) (o := 54) (t := 68) (c := 208 ≤ x3) (by decide +kernel) (ev_k_ge hx3 (by decide)) (by decide +kernel) ?_ ?_
    · intro c4
      exact ev_r_return (pc := 68) (x := ()) trivial (by decide +kernel) (by decide +kernel) rfl
    · intro c4
      refine ev_r_aload_n (pc := 17) (k := 0) (v := .ref k) trivial (by decide +kernel) (by rfl) ?_
      refine ev_r_getC (pc := 18) (y := 11) (ci := 6) (f := 0) (fin := 1) (k' := (k + 1)) (by decide +kernel) (by decide +kernel) (by exact hk) rfl rfl ?_
      refine ev_r_aload_n (pc := 21) (k := 0) (v := .ref k) trivial (by decide +kernel) (by rfl) ?_
      refine ev_r_getI (pc := 22) (y := 29) (ci := 6) (f := 5) (fin := 0) (by decide +kernel) (by decide +kernel) (by exact hk) rfl ?_
      intro x5 hx5
      refine ev_r_iload_n (pc := 25) (k := 1) (v := Int32.ofInt a0) (by decide +kernel) (by rfl) ?_
      refine ev_r_iast (pc := 26) ha0 hx5 (by decide +kernel) (by exact (ev_fo_6_0 hk)) ?_
      intro s6
      refine ev_r_aload_n (pc := 27) (k := 0) (v := .ref k) trivial (by decide +kernel) (by rfl) ?_
      refine ev_r_getC (pc := 28) (y := 15) (ci := 6) (f := 1) (fin := 1) (k' := (k + 2)) (by decide +kernel) (by decide +kernel) (by exact hk) rfl rfl ?_
      refine ev_r_aload_n (pc := 31) (k := 0) (v := .ref k) trivial (by decide +kernel) (by rfl) ?_
      refine ev_r_getI (pc := 32) (y := 29) (ci := 6) (f := 5) (fin := 0) (by decide +kernel) (by decide +kernel) (by exact hk) rfl ?_
      intro x7 hx7
      refine ev_r_iload_n (pc := 35) (k := 2) (v := Int32.ofInt a1) (by decide +kernel) (by rfl) ?_
      refine ev_r_iast (pc := 36) ha1 hx7 (by decide +kernel) (by exact (ev_fo_6_1 hk)) ?_
      intro s8
      refine ev_r_aload_n (pc := 37) (k := 0) (v := .ref k) trivial (by decide +kernel) (by rfl) ?_
      refine ev_r_getC (pc := 38) (y := 18) (ci := 6) (f := 2) (fin := 1) (k' := (k + 3)) (by decide +kernel) (by decide +kernel) (by exact hk) rfl rfl ?_
      refine ev_r_aload_n (pc := 41) (k := 0) (v := .ref k) trivial (by decide +kernel) (by rfl) ?_
      refine ev_r_getI (pc := 42) (y := 29) (ci := 6) (f := 5) (fin := 0) (by decide +kernel) (by decide +kernel) (by exact hk) rfl ?_
      intro x9 hx9
      refine ev_r_lload_n (pc := 45) (k := 3) (v := a2) (by decide +kernel) (by rfl) ?_
      refine ev_r_last (pc := 46) hx9 (by decide +kernel) (by exact (ev_fo_6_2 hk)) ?_
      intro s10
      refine ev_r_aload_n (pc := 47) (k := 0) (v := .ref k) trivial (by decide +kernel) (by rfl) ?_
      refine ev_r_getC (pc := 48) (y := 22) (ci := 6) (f := 3) (fin := 1) (k' := (k + 4)) (by decide +kernel) (by decide +kernel) (by exact hk) rfl rfl ?_
      refine ev_r_aload_n (pc := 51) (k := 0) (v := .ref k) trivial (by decide +kernel) (by rfl) ?_
      refine ev_r_getI (pc := 52) (y := 29) (ci := 6) (f := 5) (fin := 0) (by decide +kernel) (by decide +kernel) (by exact hk) rfl ?_
      intro x11 hx11
      refine ev_r_lload (pc := 55) (k := 5) (v := a3) (by decide +kernel) (by rfl) ?_
      refine ev_r_last (pc := 57) hx11 (by decide +kernel) (by exact (ev_fo_6_3 hk)) ?_
      intro s12
      refine ev_r_aload_n (pc := 58) (k := 0) (v := .ref k) trivial (by decide +kernel) (by rfl) ?_
      refine ev_r_dup (pc := 59) rfl (by decide +kernel) ?_
      refine ev_r_getI (pc := 60) (y := 29) (ci := 6) (f := 5) (fin := 0) (by decide +kernel) (by decide +kernel) (by exact hk) rfl ?_
      intro x13 hx13
      refine ev_r_iconst (pc := 63) (k := 1) (by decide +kernel) ?_
      refine ev_r_iadd (pc := 64) (by decide +kernel) ?_
      intro x14 hx14
      refine ev_r_putI (pc := 65) (y := 29) (ci := 6) (f := 5) hx14 (by decide +kernel) (by decide +kernel) (by exact hk) rfl rfl ?_
      intro s15
      exact ev_r_return (pc := 68) (x := ()) trivial (by decide +kernel) (by decide +kernel) rfl
/-- MendBench$Program.insert(III)V -/
def jm_78 (Q : Nat) (k : Nat) (a0 : Int) (a1 : Int) (a2 : Int) (S : ev_St) : Option ((Unit) × ev_St) := ev_b (S.1 k 5) fun x1 => ev_ck (x1 - a0) fun x2 => if a0 < 0 then (some ((), S)) else (if x2 < 0 then (some ((), S)) else (ev_b (S.1 k 5) fun x5 => if x5 < 208 then (ev_ck (a0 + 1) fun x7 => ev_if ((0 : Int) ≤ a0 ∧ (0 : Int) ≤ x7 ∧ (0 : Int) ≤ x2 ∧ a0 + x2 ≤ (ev_aln ((k + 1)) : Int) ∧ x7 + x2 ≤ (ev_aln ((k + 1)) : Int)) (ev_b (ev_cpI S ((k + 1)) ((k + 1)) (Int.toNat a0) (Int.toNat x7) (Int.toNat x2)) fun s8 => ev_ck (a0 + 1) fun x9 => ev_if ((0 : Int) ≤ a0 ∧ (0 : Int) ≤ x9 ∧ (0 : Int) ≤ x2 ∧ a0 + x2 ≤ (ev_aln ((k + 2)) : Int) ∧ x9 + x2 ≤ (ev_aln ((k + 2)) : Int)) (ev_b (ev_cpI s8 ((k + 2)) ((k + 2)) (Int.toNat a0) (Int.toNat x9) (Int.toNat x2)) fun s10 => ev_ck (a0 + 1) fun x11 => ev_if ((0 : Int) ≤ a0 ∧ (0 : Int) ≤ x11 ∧ (0 : Int) ≤ x2 ∧ a0 + x2 ≤ (ev_aln ((k + 3)) : Int) ∧ x11 + x2 ≤ (ev_aln ((k + 3)) : Int)) (ev_b (ev_cpL s10 ((k + 3)) ((k + 3)) (Int.toNat a0) (Int.toNat x11) (Int.toNat x2)) fun s12 => ev_ck (a0 + 1) fun x13 => ev_if ((0 : Int) ≤ a0 ∧ (0 : Int) ≤ x13 ∧ (0 : Int) ≤ x2 ∧ a0 + x2 ≤ (ev_aln ((k + 4)) : Int) ∧ x13 + x2 ≤ (ev_aln ((k + 4)) : Int)) (ev_b (ev_cpL s12 ((k + 4)) ((k + 4)) (Int.toNat a0) (Int.toNat x13) (Int.toNat x2)) fun s14 => ev_if ((0 : Int) ≤ a0 ∧ a0 < (ev_aln ((k + 1)) : Int)) (ev_b (ev_pI s14 ((k + 1)) (Int.toNat a0) a1) fun s15 => ev_if ((0 : Int) ≤ a0 ∧ a0 < (ev_aln ((k + 2)) : Int)) (ev_b (ev_pI s15 ((k + 2)) (Int.toNat a0) a2) fun s16 => ev_b (s16.1 k 5) fun x17 => ev_ck (x17 + 1) fun x18 => ev_b (ev_pI s16 k 5 x18) fun s19 => some ((), s19)))))))) else (some ((), S))))
theorem jt_78 (d : Nat) (hd : 1 ≤ d) (Q : Nat) (k : Nat) (a0 : Int) (a1 : Int) (a2 : Int) (hk : ev_isOb k 6 = true) (ha0 : ev_rng a0) (ha1 : ev_rng a1) (ha2 : ev_rng a2) (S : ev_St) (x : Unit) (S' : ev_St) (hJ : jm_78 Q k a0 a1 a2 S = some (x, S')) : ev_Ref d 78 [.ref k, .int (Int32.ofInt a0), .int (Int32.ofInt a1), .int (Int32.ofInt a2)] S (ev_eU x) S' (ev_PU x) := by
  obtain ⟨d, rfl⟩ : ∃ e, d = e + 1 := ⟨d - 1, by omega⟩
  refine ev_ref_of (P := ev_PU) (lv := [(0, .ref k), (1, .int (Int32.ofInt a0)), (2, .int (Int32.ofInt a1)), (3, .int (Int32.ofInt a2))]) (by decide +kernel) (by (try simp only [ev_sum, ev_nv_cat]); first | done | rfl) (by (try simp only [lv_args, ev_nv_cat]); first | done | rfl) ?_ x S' hJ
  unfold jm_78
  refine ev_r_aload_n (pc := 0) (k := 0) (v := .ref k) trivial (by decide +kernel) (by rfl) ?_
  refine ev_r_getI (pc := 1) (y := 29) (ci := 6) (f := 5) (fin := 0) (by decide +kernel) (by decide +kernel) (by exact hk) rfl ?_
  intro x1 hx1
  refine ev_r_iload_n (pc := 4) (k := 1) (v := Int32.ofInt a0) (by decide +kernel) (by rfl) ?_
  refine ev_r_isub (pc := 5) (by decide +kernel) ?_
  intro x2 hx2
  refine ev_r_istore (pc := 6) (k := 4) (by decide +kernel) (by decide +kernel) rfl ?_
  refine ev_r_iload_n (pc := 8) (k := 1) (v := Int32.ofInt a0) (by decide +kernel) (by exact (ev_l1 (by rfl) (by decide) (by decide))) ?_
  refine ev_r_if (pc := 9) (q := .lt) (o := 18) (t := 27) (c := a0 < 0) (by decide +kernel) (ev_k_lt ha0 ev_rng0) (by decide +kernel) ?_ ?_
  · intro c3
    exact ev_r_return (pc := 27) (x := ()) trivial (by decide +kernel) (by decide +kernel) rfl
  · intro c3
    refine ev_r_iload (pc := 12) (k := 4) (v := Int32.ofInt x2) (by decide +kernel) (by exact ev_lk_st1_self) ?_
    refine ev_r_if (pc := 14) (q := .lt) (o := 13) (t := 27) (c := x2 < 0) (by decide +kernel) (ev_k_lt hx2 ev_rng0) (by decide +kernel) ?_ ?_
    · intro c4
      exact ev_r_return (pc := 27) (x := ()) trivial (by decide +kernel) (by decide +kernel) rfl
    · intro c4
      refine ev_r_aload_n (pc := 17) (k := 0) (v := .ref k) trivial (by decide +kernel) (by exact (ev_l1 (by rfl) (by decide) (by decide))) ?_
      refine ev_r_getI (pc := 18) (y := 29) (ci := 6) (f := 5) (fin := 0) (by decide +kernel) (by decide +kernel) (by exact hk) rfl ?_
      intro x5 hx5
      refine ev_r_sipush (pc := 21) (k := 208) (by decide +kernel) (by decide +kernel) ?_
      refine ev_r_icmp (pc := 24) (q := .lt) (o := 4) (t := 28) (c := x5 < 208) (by decide +kernel) (ev_k_lt hx5 (by decide)) (by decide +kernel) ?_ ?_
      · intro c6
        refine ev_r_aload_n (pc := 28) (k := 0) (v := .ref k) trivial (by decide +kernel) (by exact (ev_l1 (by rfl) (by decide) (by decide))) ?_
        refine ev_r_getC (pc := 29) (y := 11) (ci := 6) (f := 0) (fin := 1) (k' := (k + 1)) (by decide +kernel) (by decide +kernel) (by exact hk) rfl rfl ?_
        refine ev_r_iload_n (pc := 32) (k := 1) (v := Int32.ofInt a0) (by decide +kernel) (by exact (ev_l1 (by rfl) (by decide) (by decide))) ?_
        refine ev_r_aload_n (pc := 33) (k := 0) (v := .ref k) trivial (by decide +kernel) (by exact (ev_l1 (by rfl) (by decide) (by decide))) ?_
        refine ev_r_getC (pc := 34) (y := 11) (ci := 6) (f := 0) (fin := 1) (k' := (k + 1)) (by decide +kernel) (by decide +kernel) (by exact hk) rfl rfl ?_
        refine ev_r_iload_n (pc := 37) (k := 1) (v := Int32.ofInt a0) (by decide +kernel) (by exact (ev_l1 (by rfl) (by decide) (by decide))) ?_
        refine ev_r_iconst (pc := 38) (k := 1) (by decide +kernel) ?_
        refine ev_r_iadd (pc := 39) (by decide +kernel) ?_
        intro x7 hx7
        refine ev_r_iload (pc := 40) (k := 4) (v := Int32.ofInt x2) (by decide +kernel) (by exact ev_lk_st1_self) ?_
        refine ev_r_copyI (pc := 42) (y := 102) ⟨ha0, hx7, hx2⟩ (by decide +kernel) (by decide +kernel) (by (try simp only [ev_sum, ev_nv_cat]); first | done | rfl) (by exact (ev_fo_6_0 hk)) (by exact (ev_fo_6_0 hk)) ?_
        intro s8
        refine ev_r_aload_n (pc := 45) (k := 0) (v := .ref k) trivial (by decide +kernel) (by exact (ev_l1 (by rfl) (by decide) (by decide))) ?_
        refine ev_r_getC (pc := 46) (y := 15) (ci := 6) (f := 1) (fin := 1) (k' := (k + 2)) (by decide +kernel) (by decide +kernel) (by exact hk) rfl rfl ?_
        refine ev_r_iload_n (pc := 49) (k := 1) (v := Int32.ofInt a0) (by decide +kernel) (by exact (ev_l1 (by rfl) (by decide) (by decide))) ?_
        refine ev_r_aload_n (pc := 50) (k := 0) (v := .ref k) trivial (by decide +kernel) (by exact (ev_l1 (by rfl) (by decide) (by decide))) ?_
        refine ev_r_getC (pc := 51) (y := 15) (ci := 6) (f := 1) (fin := 1) (k' := (k + 2)) (by decide +kernel) (by decide +kernel) (by exact hk) rfl rfl ?_
        refine ev_r_iload_n (pc := 54) (k := 1) (v := Int32.ofInt a0) (by decide +kernel) (by exact (ev_l1 (by rfl) (by decide) (by decide))) ?_
        refine ev_r_iconst (pc := 55) (k := 1) (by decide +kernel) ?_
        refine ev_r_iadd (pc := 56) (by decide +kernel) ?_
        intro x9 hx9
        refine ev_r_iload (pc := 57) (k := 4) (v := Int32.ofInt x2) (by decide +kernel) (by exact ev_lk_st1_self) ?_
        refine ev_r_copyI (pc := 59) (y := 102) ⟨ha0, hx9, hx2⟩ (by decide +kernel) (by decide +kernel) (by (try simp only [ev_sum, ev_nv_cat]); first | done | rfl) (by exact (ev_fo_6_1 hk)) (by exact (ev_fo_6_1 hk)) ?_
        intro s10
        refine ev_r_aload_n (pc := 62) (k := 0) (v := .ref k) trivial (by decide +kernel) (by exact (ev_l1 (by rfl) (by decide) (by decide))) ?_
        refine ev_r_getC (pc := 63) (y := 18) (ci := 6) (f := 2) (fin := 1) (k' := (k + 3)) (by decide +kernel) (by decide +kernel) (by exact hk) rfl rfl ?_
        refine ev_r_iload_n (pc := 66) (k := 1) (v := Int32.ofInt a0) (by decide +kernel) (by exact (ev_l1 (by rfl) (by decide) (by decide))) ?_
        refine ev_r_aload_n (pc := 67) (k := 0) (v := .ref k) trivial (by decide +kernel) (by exact (ev_l1 (by rfl) (by decide) (by decide))) ?_
        refine ev_r_getC (pc := 68) (y := 18) (ci := 6) (f := 2) (fin := 1) (k' := (k + 3)) (by decide +kernel) (by decide +kernel) (by exact hk) rfl rfl ?_
        refine ev_r_iload_n (pc := 71) (k := 1) (v := Int32.ofInt a0) (by decide +kernel) (by exact (ev_l1 (by rfl) (by decide) (by decide))) ?_
        refine ev_r_iconst (pc := 72) (k := 1) (by decide +kernel) ?_
        refine ev_r_iadd (pc := 73) (by decide +kernel) ?_
        intro x11 hx11
        refine ev_r_iload (pc := 74) (k := 4) (v := Int32.ofInt x2) (by decide +kernel) (by exact ev_lk_st1_self) ?_
        refine ev_r_copyL (pc := 76) (y := 102) ⟨ha0, hx11, hx2⟩ (by decide +kernel) (by decide +kernel) (by (try simp only [ev_sum, ev_nv_cat]); first | done | rfl) (by exact (ev_fo_6_2 hk)) (by exact (ev_fo_6_2 hk)) ?_
        intro s12
        refine ev_r_aload_n (pc := 79) (k := 0) (v := .ref k) trivial (by decide +kernel) (by exact (ev_l1 (by rfl) (by decide) (by decide))) ?_
        refine ev_r_getC (pc := 80) (y := 22) (ci := 6) (f := 3) (fin := 1) (k' := (k + 4)) (by decide +kernel) (by decide +kernel) (by exact hk) rfl rfl ?_
        refine ev_r_iload_n (pc := 83) (k := 1) (v := Int32.ofInt a0) (by decide +kernel) (by exact (ev_l1 (by rfl) (by decide) (by decide))) ?_
        refine ev_r_aload_n (pc := 84) (k := 0) (v := .ref k) trivial (by decide +kernel) (by exact (ev_l1 (by rfl) (by decide) (by decide))) ?_
        refine ev_r_getC (pc := 85) (y := 22) (ci := 6) (f := 3) (fin := 1) (k' := (k + 4)) (by decide +kernel) (by decide +kernel) (by exact hk) rfl rfl ?_
        refine ev_r_iload_n (pc := 88) (k := 1) (v := Int32.ofInt a0) (by decide +kernel) (by exact (ev_l1 (by rfl) (by decide) (by decide))) ?_
        refine ev_r_iconst (pc := 89) (k := 1) (by decide +kernel) ?_
        refine ev_r_iadd (pc := 90) (by decide +kernel) ?_
        intro x13 hx13
        refine ev_r_iload (pc := 91) (k := 4) (v := Int32.ofInt x2) (by decide +kernel) (by exact ev_lk_st1_self) ?_
        refine ev_r_copyL (pc := 93) (y := 102) ⟨ha0, hx13, hx2⟩ (by decide +kernel) (by decide +kernel) (by (try simp only [ev_sum, ev_nv_cat]); first | done | rfl) (by exact (ev_fo_6_3 hk)) (by exact (ev_fo_6_3 hk)) ?_
        intro s14
        refine ev_r_aload_n (pc := 96) (k := 0) (v := .ref k) trivial (by decide +kernel) (by exact (ev_l1 (by rfl) (by decide) (by decide))) ?_
        refine ev_r_getC (pc := 97) (y := 11) (ci := 6) (f := 0) (fin := 1) (k' := (k + 1)) (by decide +kernel) (by decide +kernel) (by exact hk) rfl rfl ?_
        refine ev_r_iload_n (pc := 100) (k := 1) (v := Int32.ofInt a0) (by decide +kernel) (by exact (ev_l1 (by rfl) (by decide) (by decide))) ?_
        refine ev_r_iload_n (pc := 101) (k := 2) (v := Int32.ofInt a1) (by decide +kernel) (by exact (ev_l1 (by rfl) (by decide) (by decide))) ?_
        refine ev_r_iast (pc := 102) ha1 ha0 (by decide +kernel) (by exact (ev_fo_6_0 hk)) ?_
        intro s15
        refine ev_r_aload_n (pc := 103) (k := 0) (v := .ref k) trivial (by decide +kernel) (by exact (ev_l1 (by rfl) (by decide) (by decide))) ?_
        refine ev_r_getC (pc := 104) (y := 15) (ci := 6) (f := 1) (fin := 1) (k' := (k + 2)) (by decide +kernel) (by decide +kernel) (by exact hk) rfl rfl ?_
        refine ev_r_iload_n (pc := 107) (k := 1) (v := Int32.ofInt a0) (by decide +kernel) (by exact (ev_l1 (by rfl) (by decide) (by decide))) ?_
        refine ev_r_iload_n (pc := 108) (k := 3) (v := Int32.ofInt a2) (by decide +kernel) (by exact (ev_lk_st1 (by rfl) (by decide) rfl)) ?_
        refine ev_r_iast (pc := 109) ha2 ha0 (by decide +kernel) (by exact (ev_fo_6_1 hk)) ?_
        intro s16
        refine ev_r_aload_n (pc := 110) (k := 0) (v := .ref k) trivial (by decide +kernel) (by exact (ev_l1 (by rfl) (by decide) (by decide))) ?_
        refine ev_r_dup (pc := 111) rfl (by decide +kernel) ?_
        refine ev_r_getI (pc := 112) (y := 29) (ci := 6) (f := 5) (fin := 0) (by decide +kernel) (by decide +kernel) (by exact hk) rfl ?_
        intro x17 hx17
        refine ev_r_iconst (pc := 115) (k := 1) (by decide +kernel) ?_
        refine ev_r_iadd (pc := 116) (by decide +kernel) ?_
        intro x18 hx18
        refine ev_r_putI (pc := 117) (y := 29) (ci := 6) (f := 5) hx18 (by decide +kernel) (by decide +kernel) (by exact hk) rfl rfl ?_
        intro s19
        exact ev_r_return (pc := 120) (x := ()) trivial (by decide +kernel) (by decide +kernel) rfl
      · intro c6
        exact ev_r_return (pc := 27) (x := ()) trivial (by decide +kernel) (by decide +kernel) rfl
/-- MendBench$Program.isIn(I)Z -/
def jm_70 (Q : Nat) (k : Nat) (a0 : Int) (S : ev_St) : Option ((Int) × ev_St) := if a0 < 0 then (some (0, S)) else (ev_b (S.1 k 5) fun x2 => if x2 ≤ a0 then (some (0, S)) else (if 208 ≤ a0 then (some (0, S)) else (some (1, S))))
theorem jt_70 (d : Nat) (hd : 1 ≤ d) (Q : Nat) (k : Nat) (a0 : Int) (hk : ev_isOb k 6 = true) (ha0 : ev_rng a0) (S : ev_St) (x : Int) (S' : ev_St) (hJ : jm_70 Q k a0 S = some (x, S')) : ev_Ref d 70 [.ref k, .int (Int32.ofInt a0)] S (ev_eI x) S' (ev_bl x) := by
  obtain ⟨d, rfl⟩ : ∃ e, d = e + 1 := ⟨d - 1, by omega⟩
  refine ev_ref_of (P := ev_bl) (lv := [(0, .ref k), (1, .int (Int32.ofInt a0))]) (by decide +kernel) (by (try simp only [ev_sum, ev_nv_cat]); first | done | rfl) (by (try simp only [lv_args, ev_nv_cat]); first | done | rfl) ?_ x S' hJ
  unfold jm_70
  refine ev_r_iload_n (pc := 0) (k := 1) (v := Int32.ofInt a0) (by decide +kernel) (by rfl) ?_
  refine ev_r_if (pc := 1) (q := .lt) (o := 22) (t := 23) (c := a0 < 0) (by decide +kernel) (ev_k_lt ha0 ev_rng0) (by decide +kernel) ?_ ?_
  · intro c1
    refine ev_r_iconst (pc := 23) (k := 0) (by decide +kernel) ?_
    exact ev_r_ireturn (pc := 24) (x := 0) (v := Int32.ofInt 0) (ty := .boolean) (by decide : ev_bl 0) (by decide +kernel) (by decide +kernel) (ev_ret_bl (by decide : ev_bl 0)) rfl
  · intro c1
    refine ev_r_iload_n (pc := 4) (k := 1) (v := Int32.ofInt a0) (by decide +kernel) (by rfl) ?_
    refine ev_r_aload_n (pc := 5) (k := 0) (v := .ref k) trivial (by decide +kernel) (by rfl) ?_
    refine ev_r_getI (pc := 6) (y := 29) (ci := 6) (f := 5) (fin := 0) (by decide +kernel) (by decide +kernel) (by exact hk) rfl ?_
    intro x2 hx2
    refine ev_r_icmp (pc := 9) (q := .ge) (o := 14) (t := 23) (c := x2 ≤ a0) (by decide +kernel) (ev_k_ge ha0 hx2) (by decide +kernel) ?_ ?_
    · intro c3
      refine ev_r_iconst (pc := 23) (k := 0) (by decide +kernel) ?_
      exact ev_r_ireturn (pc := 24) (x := 0) (v := Int32.ofInt 0) (ty := .boolean) (by decide : ev_bl 0) (by decide +kernel) (by decide +kernel) (ev_ret_bl (by decide : ev_bl 0)) rfl
    · intro c3
      refine ev_r_iload_n (pc := 12) (k := 1) (v := Int32.ofInt a0) (by decide +kernel) (by rfl) ?_
      refine ev_r_sipush (pc := 13) (k := 208) (by decide +kernel) (by decide +kernel) ?_
      refine ev_r_icmp (pc := 16) (q := .ge) (o := 7) (t := 23) (c := 208 ≤ a0) (by decide +kernel) (ev_k_ge ha0 (by decide)) (by decide +kernel) ?_ ?_
      · intro c4
        refine ev_r_iconst (pc := 23) (k := 0) (by decide +kernel) ?_
        exact ev_r_ireturn (pc := 24) (x := 0) (v := Int32.ofInt 0) (ty := .boolean) (by decide : ev_bl 0) (by decide +kernel) (by decide +kernel) (ev_ret_bl (by decide : ev_bl 0)) rfl
      · intro c4
        refine ev_r_iconst (pc := 19) (k := 1) (by decide +kernel) ?_
        refine ev_r_goto (pc := 20) (o := 4) (t := 24) (by decide +kernel) (by decide +kernel) ?_
        exact ev_r_ireturn (pc := 24) (x := 1) (v := Int32.ofInt 1) (ty := .boolean) (by decide : ev_bl 1) (by decide +kernel) (by decide +kernel) (ev_ret_bl (by decide : ev_bl 1)) rfl
def jb_77_2 (Q : Nat) (k : Nat) (a0 : Int) (a1 : Int)  (K2 : Int → ev_St → Option ((Unit) × ev_St)) (x1 : Int) (s7 : ev_St) : Option ((Unit) × ev_St) := if a1 ≤ x1 then (some ((), s7)) else (ev_ck (a0 + x1) fun x9 => ev_bd (jm_70 Q k x9 s7) fun x11 s10 => ev_jn (fun  (s17 : ev_St) => ev_ck (x1 + 1) fun x18 => K2 x18 s17) fun K53 => if x11 = 0 then (K53  s10) else (ev_if ((0 : Int) ≤ x9 ∧ x9 < (ev_aln ((k + 1)) : Int)) (ev_b (s10.1 ((k + 1)) (Int.toNat x9)) fun x20 => ev_if ((0 : Int) ≤ x9 ∧ x9 < (ev_aln ((k + 2)) : Int)) (ev_b (s10.1 ((k + 2)) (Int.toNat x9)) fun x21 => ev_if ((0 : Int) ≤ x9 ∧ x9 < (ev_aln ((k + 3)) : Int)) (ev_b (s10.2.1 ((k + 3)) (Int.toNat x9)) fun y22 => ev_if ((0 : Int) ≤ x9 ∧ x9 < (ev_aln ((k + 4)) : Int)) (ev_b (s10.2.1 ((k + 4)) (Int.toNat x9)) fun y23 => ev_bd (jm_76 Q k x20 x21 y22 y23 s10) fun _ s24 => K53  s24))))))
def jl_77_2 (Q : Nat) (k : Nat) (a0 : Int) (a1 : Int)  : Nat → Int → ev_St → Option ((Unit) × ev_St)
  | 0 => fun _ _ => none
  | q + 1 => jb_77_2 Q k a0 a1  (jl_77_2 Q k a0 a1  q)
theorem jbt_77_2 (d : Nat) (hd : 2 ≤ d + 1) (Q : Nat) (k : Nat) (a0 : Int) (a1 : Int) (hk : ev_isOb k 6 = true) (ha0 : ev_rng a0) (ha1 : ev_rng a1)   (K2 : Int → ev_St → Option ((Unit) × ev_St)) (hK2 : ∀ (x1 : Int) (hx1 : ev_rng x1), ∀ (s7 : ev_St) (w2 : List (Nat × Value)), ev_lk w2 0 = some (.ref k) → ev_lk w2 1 = some (.int (Int32.ofInt a0)) → ev_lk w2 2 = some (.int (Int32.ofInt a1)) → ev_lk w2 3 = some (.int (Int32.ofInt x1)) → ev_w none (ev_Mof 77) d 2 w2 [] s7 (K2 x1 s7) ev_eU ev_PU) : ∀ (x1 : Int) (hx1 : ev_rng x1), ∀ (s7 : ev_St) (w2 : List (Nat × Value)), ev_lk w2 0 = some (.ref k) → ev_lk w2 1 = some (.int (Int32.ofInt a0)) → ev_lk w2 2 = some (.int (Int32.ofInt a1)) → ev_lk w2 3 = some (.int (Int32.ofInt x1)) → ev_w none (ev_Mof 77) d 2 w2 [] s7 (jb_77_2 Q k a0 a1  K2 x1 s7) ev_eU ev_PU := by
  intro x1 hx1 s7 w2 e3 e4 e5 e6
  unfold jb_77_2
  refine ev_r_iload_n (pc := 2) (k := 3) (v := Int32.ofInt x1) (by decide +kernel) (by exact e6) ?_
  refine ev_r_iload_n (pc := 3) (k := 2) (v := Int32.ofInt a1) (by decide +kernel) (by exact e5) ?_
  refine ev_r_icmp (pc := 4) (q := .ge) (o := 55) (t := 59) (c := a1 ≤ x1) (by decide +kernel) (ev_k_ge hx1 ha1) (by decide +kernel) ?_ ?_
  · intro c8
    exact ev_r_return (pc := 59) (x := ()) trivial (by decide +kernel) (by decide +kernel) rfl
  · intro c8
    refine ev_r_iload_n (pc := 7) (k := 1) (v := Int32.ofInt a0) (by decide +kernel) (by exact e4) ?_
    refine ev_r_iload_n (pc := 8) (k := 3) (v := Int32.ofInt x1) (by decide +kernel) (by exact e6) ?_
    refine ev_r_iadd (pc := 9) (by decide +kernel) ?_
    intro x9 hx9
    refine ev_r_istore (pc := 10) (k := 4) (by decide +kernel) (by decide +kernel) rfl ?_
    refine ev_r_aload_n (pc := 12) (k := 0) (v := .ref k) trivial (by decide +kernel) (by exact (ev_l1 e3 (by decide) (by decide))) ?_
    refine ev_r_iload (pc := 13) (k := 4) (v := Int32.ofInt x9) (by decide +kernel) (by exact ev_lk_st1_self) ?_
    refine ev_r_virt (pc := 15) (y := 95) (mi := 70) (na := 1) (k := k) (as := [.int (Int32.ofInt x9)]) (rest := []) (encc := ev_oI) (Q := ev_bl) (fun x S1 h => jt_70 d (by omega) Q k x9 hk hx9 s7 x S1 h) (by exact hk) (by decide +kernel) (by decide +kernel) (by decide +kernel) (by decide +kernel) rfl (by (try simp only [ev_sum, ev_nv_cat]); first | done | rfl) ?_
    intro x11 s10 hx11
    replace hx11 := ev_bl_rng hx11
    show ev_w _ _ _ _ _ [.int (Int32.ofInt x11)] _ _ _ _
    refine ev_r_jn (Q := fun K => ∀ (s17 : ev_St) (w12 : List (Nat × Value)), ev_lk w12 0 = some (.ref k) → ev_lk w12 1 = some (.int (Int32.ofInt a0)) → ev_lk w12 2 = some (.int (Int32.ofInt a1)) → ev_lk w12 3 = some (.int (Int32.ofInt x1)) → ev_w none (ev_Mof 77) d 53 w12 [] s17 (K  s17) ev_eU ev_PU) ?_ ?_
    · intro  s17 w12 e13 e14 e15 e16
      refine ev_r_iinc (pc := 53) (k := 3) (c := 1) (x := x1) (by decide +kernel) (by decide +kernel) (by exact e16) (fun _ => rfl) ?_
      intro x18 hx18
      refine ev_r_goto (pc := 56) (o := (-54)) (t := 2) (by decide +kernel) (by decide +kernel) ?_
      exact hK2 x18 hx18 s17 _ (by exact (ev_l1 e13 (by decide) (by decide))) (by exact (ev_l1 e14 (by decide) (by decide))) (by exact (ev_lk_st1 e15 (by decide) rfl)) (by exact ev_lk_st1_self)
    · intro K53 hK53
      refine ev_r_if (pc := 18) (q := .eq) (o := 35) (t := 53) (c := x11 = 0) (by decide +kernel) (ev_k_eq hx11 ev_rng0) (by decide +kernel) ?_ ?_
      · intro c19
        exact hK53  s10 _ (by exact (ev_l1 e3 (by decide) (by decide))) (by exact (ev_l1 e4 (by decide) (by decide))) (by exact (ev_l1 e5 (by decide) (by decide))) (by exact (ev_lk_st1 e6 (by decide) rfl))
      · intro c19
        refine ev_r_aload_n (pc := 21) (k := 0) (v := .ref k) trivial (by decide +kernel) (by exact (ev_l1 e3 (by decide) (by decide))) ?_
        refine ev_r_aload_n (pc := 22) (k := 0) (v := .ref k) trivial (by decide +kernel) (by exact (ev_l1 e3 (by decide) (by decide))) ?_
        refine ev_r_getC (pc := 23) (y := 11) (ci := 6) (f := 0) (fin := 1) (k' := (k + 1)) (by decide +kernel) (by decide +kernel) (by exact hk) rfl rfl ?_
        refine ev_r_iload (pc := 26) (k := 4) (v := Int32.ofInt x9) (by decide +kernel) (by exact ev_lk_st1_self) ?_
        refine ev_r_iald (pc := 28) hx9 (by decide +kernel) (by exact (ev_fo_6_0 hk)) ?_
        intro x20 hx20
        refine ev_r_aload_n (pc := 29) (k := 0) (v := .ref k) trivial (by decide +kernel) (by exact (ev_l1 e3 (by decide) (by decide))) ?_
        refine ev_r_getC (pc := 30) (y := 15) (ci := 6) (f := 1) (fin := 1) (k' := (k + 2)) (by decide +kernel) (by decide +kernel) (by exact hk) rfl rfl ?_
        refine ev_r_iload (pc := 33) (k := 4) (v := Int32.ofInt x9) (by decide +kernel) (by exact ev_lk_st1_self) ?_
        refine ev_r_iald (pc := 35) hx9 (by decide +kernel) (by exact (ev_fo_6_1 hk)) ?_
        intro x21 hx21
        refine ev_r_aload_n (pc := 36) (k := 0) (v := .ref k) trivial (by decide +kernel) (by exact (ev_l1 e3 (by decide) (by decide))) ?_
        refine ev_r_getC (pc := 37) (y := 18) (ci := 6) (f := 2) (fin := 1) (k' := (k + 3)) (by decide +kernel) (by decide +kernel) (by exact hk) rfl rfl ?_
        refine ev_r_iload (pc := 40) (k := 4) (v := Int32.ofInt x9) (by decide +kernel) (by exact ev_lk_st1_self) ?_
        refine ev_r_lald (pc := 42) hx9 (by decide +kernel) (by exact (ev_fo_6_2 hk)) ?_
        intro y22
        refine ev_r_aload_n (pc := 43) (k := 0) (v := .ref k) trivial (by decide +kernel) (by exact (ev_l1 e3 (by decide) (by decide))) ?_
        refine ev_r_getC (pc := 44) (y := 22) (ci := 6) (f := 3) (fin := 1) (k' := (k + 4)) (by decide +kernel) (by decide +kernel) (by exact hk) rfl rfl ?_
        refine ev_r_iload (pc := 47) (k := 4) (v := Int32.ofInt x9) (by decide +kernel) (by exact ev_lk_st1_self) ?_
        refine ev_r_lald (pc := 49) hx9 (by decide +kernel) (by exact (ev_fo_6_3 hk)) ?_
        intro y23
        refine ev_r_virt (pc := 50) (y := 50) (mi := 76) (na := 4) (k := k) (as := [.int (Int32.ofInt x20), .int (Int32.ofInt x21), .long y22, .long y23]) (rest := []) (encc := ev_oU) (Q := ev_PU) (fun x S1 h => jt_76 d (by omega) Q k x20 x21 y22 y23 hk hx20 hx21 s10 x S1 h) (by exact hk) (by decide +kernel) (by decide +kernel) (by decide +kernel) (by decide +kernel) rfl (by (try simp only [ev_sum, ev_nv_cat]); first | done | rfl) ?_
        intro _ s24 _
        show ev_w _ _ _ _ _ [] _ _ _ _
        exact hK53  s24 _ (by exact (ev_l1 e3 (by decide) (by decide))) (by exact (ev_l1 e4 (by decide) (by decide))) (by exact (ev_l1 e5 (by decide) (by decide))) (by exact (ev_lk_st1 e6 (by decide) rfl))
theorem jlt_77_2 (d : Nat) (hd : 2 ≤ d + 1) (Q : Nat) (k : Nat) (a0 : Int) (a1 : Int) (hk : ev_isOb k 6 = true) (ha0 : ev_rng a0) (ha1 : ev_rng a1)   : ∀ q : Nat, ∀ (x1 : Int) (hx1 : ev_rng x1), ∀ (s7 : ev_St) (w2 : List (Nat × Value)), ev_lk w2 0 = some (.ref k) → ev_lk w2 1 = some (.int (Int32.ofInt a0)) → ev_lk w2 2 = some (.int (Int32.ofInt a1)) → ev_lk w2 3 = some (.int (Int32.ofInt x1)) → ev_w none (ev_Mof 77) d 2 w2 [] s7 (jl_77_2 Q k a0 a1  q x1 s7) ev_eU ev_PU := by
  intro q
  induction q with
  | zero =>
    intro x1 hx1 s7 w2 e3 e4 e5 e6
    exact ev_w_none
  | succ q ih => exact jbt_77_2 d hd Q k a0 a1 hk ha0 ha1   _ ih
/-- MendBench$Program.copy(II)V -/
def jm_77 (Q : Nat) (k : Nat) (a0 : Int) (a1 : Int) (S : ev_St) : Option ((Unit) × ev_St) := jl_77_2 Q k a0 a1  Q 0 S
theorem jt_77 (d : Nat) (hd : 2 ≤ d) (Q : Nat) (k : Nat) (a0 : Int) (a1 : Int) (hk : ev_isOb k 6 = true) (ha0 : ev_rng a0) (ha1 : ev_rng a1) (S : ev_St) (x : Unit) (S' : ev_St) (hJ : jm_77 Q k a0 a1 S = some (x, S')) : ev_Ref d 77 [.ref k, .int (Int32.ofInt a0), .int (Int32.ofInt a1)] S (ev_eU x) S' (ev_PU x) := by
  obtain ⟨d, rfl⟩ : ∃ e, d = e + 1 := ⟨d - 1, by omega⟩
  refine ev_ref_of (P := ev_PU) (lv := [(0, .ref k), (1, .int (Int32.ofInt a0)), (2, .int (Int32.ofInt a1))]) (by decide +kernel) (by (try simp only [ev_sum, ev_nv_cat]); first | done | rfl) (by (try simp only [lv_args, ev_nv_cat]); first | done | rfl) ?_ x S' hJ
  unfold jm_77
  refine ev_r_iconst (pc := 0) (k := 0) (by decide +kernel) ?_
  refine ev_r_istore_n (pc := 1) (k := 3) (by decide +kernel) (by decide +kernel) rfl ?_
  exact jlt_77_2 d hd Q k a0 a1 hk ha0 ha1   Q 0 (by decide) S _ (by exact (ev_l1 (by rfl) (by decide) (by decide))) (by exact (ev_l1 (by rfl) (by decide) (by decide))) (by exact (ev_lk_st1 (by rfl) (by decide) rfl)) (by exact ev_lk_st1_self)
