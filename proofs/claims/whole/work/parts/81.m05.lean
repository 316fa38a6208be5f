/-! METHODS as functions, laid by decomp.py -/
theorem ev_ab_276 : ev_isAb 276 1 .int = true := (by decide +kernel)
theorem ev_ab_275 : ev_isAb 275 1 .int = true := (by decide +kernel)
theorem ev_ab_274 : ev_isAb 274 1 .int = true := (by decide +kernel)
theorem ev_on_0 {k : Nat} (h : ev_isOb k 0 = true) : k = 254 := ev_only (by decide +kernel) h
theorem ev_ob_3 : ev_isOb 3 7 = true := (by decide +kernel)
theorem ev_el_4 {i : Int} (h : 0 ≤ i ∧ i < (26 : Int)) : ev_isOb (169 + 2 * i.toNat) 10 = true := (show ∀ j, j < 26 → ev_isOb (169 + 2 * j) 10 = true from (by decide +kernel)) i.toNat (by omega)
theorem ev_ab_5 : ev_isAb 5 1 .boolean = true := (by decide +kernel)
theorem ev_el_14 {i : Int} (h : 0 ≤ i ∧ i < (152 : Int)) : ev_isOb (17 + 1 * i.toNat) 4 = true := (show ∀ j, j < 152 → ev_isOb (17 + 1 * j) 4 = true from (by decide +kernel)) i.toNat (by omega)
theorem ev_ab_16 : ev_isAb 16 1 .int = true := (by decide +kernel)
def jb_45_17 (Q : Nat)   (K17 : Int → Int → ev_St → Option ((Unit) × ev_St)) (x4 : Int) (x5 : Int) (s10 : ev_St) : Option ((Unit) × ev_St) := if x5 < 0 then (some ((), s10)) else (ev_if ((0 : Int) ≤ x5 ∧ x5 < (ev_aln 276 : Int)) (ev_b (s10.1 276 (Int.toNat x5)) fun x12 => ev_ck (x4 - x12) fun x13 => ev_if ((0 : Int) ≤ x5 ∧ x5 < (ev_aln 276 : Int)) (ev_b (s10.1 276 (Int.toNat x5)) fun x14 => ev_if ((0 : Int) ≤ x5 ∧ x5 < (ev_aln 275 : Int)) (ev_b (s10.1 275 (Int.toNat x5)) fun x15 => ev_if ((0 : Int) ≤ x5 ∧ x5 < (ev_aln 274 : Int)) (ev_b (s10.1 274 (Int.toNat x5)) fun x16 => ev_ck (x15 - x16) fun x17 => ev_if ((0 : Int) ≤ x5 ∧ x5 < (ev_aln 274 : Int)) (ev_b (s10.1 274 (Int.toNat x5)) fun x18 => ev_bd (jm_154 Q 270 x18 x17 ((273 + 1)) x14 x13 s10) fun _ s19 => ev_if ((0 : Int) ≤ x5 ∧ x5 < (ev_aln 274 : Int)) (ev_b (s19.1 274 (Int.toNat x5)) fun x20 => ev_bd (jm_46 Q x20 x17 x14 x13 s19) fun _ s21 => ev_ck (x5 + (-1)) fun x22 => K17 x14 x22 s21)))))))
def jl_45_17 (Q : Nat)   : Nat → Int → Int → ev_St → Option ((Unit) × ev_St)
  | 0 => fun _ _ _ => none
  | q + 1 => jb_45_17 Q   (jl_45_17 Q   q)
theorem jbt_45_17 (d : Nat) (hd : 2 ≤ d + 1) (Q : Nat)     (K17 : Int → Int → ev_St → Option ((Unit) × ev_St)) (hK17 : ∀ (x4 : Int) (hx4 : ev_rng x4), ∀ (x5 : Int) (hx5 : ev_rng x5), ∀ (s10 : ev_St) (w6 : List (Nat × Value)), ev_lk w6 0 = some (.ref 269) → ev_lk w6 2 = some (.int (Int32.ofInt x4)) → ev_lk w6 3 = some (.int (Int32.ofInt x5)) → ev_w none (ev_Mof 45) d 17 w6 [] s10 (K17 x4 x5 s10) ev_eU ev_PU) : ∀ (x4 : Int) (hx4 : ev_rng x4), ∀ (x5 : Int) (hx5 : ev_rng x5), ∀ (s10 : ev_St) (w6 : List (Nat × Value)), ev_lk w6 0 = some (.ref 269) → ev_lk w6 2 = some (.int (Int32.ofInt x4)) → ev_lk w6 3 = some (.int (Int32.ofInt x5)) → ev_w none (ev_Mof 45) d 17 w6 [] s10 (jb_45_17 Q   K17 x4 x5 s10) ev_eU ev_PU := by
  intro x4 hx4 x5 hx5 s10 w6 e7 e8 e9
  unfold jb_45_17
  refine ev_r_iload_n (pc := 17) (k := 3) (v := Int32.ofInt x5) (by decide +kernel) (by exact e9) ?_
  refine ev_r_if (pc := 18) (q := .lt) (o := 81) (t := 99) (c := x5 < 0) (by decide +kernel) (ev_k_lt hx5 ev_rng0) (by decide +kernel) ?_ ?_
  · intro c11
    exact ev_r_return (pc := 99) (x := ()) trivial (by decide +kernel) (by decide +kernel) rfl
  · intro c11
    refine ev_r_iload_n (pc := 21) (k := 2) (v := Int32.ofInt x4) (by decide +kernel) (by exact e8) ?_
    refine ev_r_aload_n (pc := 22) (k := 0) (v := .ref 269) trivial (by decide +kernel) (by exact e7) ?_
    refine ev_r_getC (pc := 23) (y := 28) (ci := 3) (f := 4) (fin := 1) (k' := 276) (by decide +kernel) (by decide +kernel) (by exact ev_ob_269) rfl rfl ?_
    refine ev_r_iload_n (pc := 26) (k := 3) (v := Int32.ofInt x5) (by decide +kernel) (by exact e9) ?_
    refine ev_r_iald (pc := 27) hx5 (by decide +kernel) (by exact ev_ab_276) ?_
    intro x12 hx12
    refine ev_r_isub (pc := 28) (by decide +kernel) ?_
    intro x13 hx13
    refine ev_r_istore (pc := 29) (k := 4) (by decide +kernel) (by decide +kernel) rfl ?_
    refine ev_r_aload_n (pc := 31) (k := 0) (v := .ref 269) trivial (by decide +kernel) (by exact (ev_l1 e7 (by decide) (by decide))) ?_
    refine ev_r_getC (pc := 32) (y := 28) (ci := 3) (f := 4) (fin := 1) (k' := 276) (by decide +kernel) (by decide +kernel) (by exact ev_ob_269) rfl rfl ?_
    refine ev_r_iload_n (pc := 35) (k := 3) (v := Int32.ofInt x5) (by decide +kernel) (by exact (ev_lk_st1 e9 (by decide) rfl)) ?_
    refine ev_r_iald (pc := 36) hx5 (by decide +kernel) (by exact ev_ab_276) ?_
    intro x14 hx14
    refine ev_r_istore_n (pc := 37) (k := 2) (by decide +kernel) (by decide +kernel) rfl ?_
    refine ev_r_aload_n (pc := 38) (k := 0) (v := .ref 269) trivial (by decide +kernel) (by exact (ev_l1 (ev_l1 e7 (by decide) (by decide)) (by decide) (by decide))) ?_
    refine ev_r_getC (pc := 39) (y := 25) (ci := 3) (f := 3) (fin := 1) (k' := 275) (by decide +kernel) (by decide +kernel) (by exact ev_ob_269) rfl rfl ?_
    refine ev_r_iload_n (pc := 42) (k := 3) (v := Int32.ofInt x5) (by decide +kernel) (by exact (ev_l1 (ev_lk_st1 e9 (by decide) rfl) (by decide) (by decide))) ?_
    refine ev_r_iald (pc := 43) hx5 (by decide +kernel) (by exact ev_ab_275) ?_
    intro x15 hx15
    refine ev_r_aload_n (pc := 44) (k := 0) (v := .ref 269) trivial (by decide +kernel) (by exact (ev_l1 (ev_l1 e7 (by decide) (by decide)) (by decide) (by decide))) ?_
    refine ev_r_getC (pc := 45) (y := 21) (ci := 3) (f := 2) (fin := 1) (k' := 274) (by decide +kernel) (by decide +kernel) (by exact ev_ob_269) rfl rfl ?_
    refine ev_r_iload_n (pc := 48) (k := 3) (v := Int32.ofInt x5) (by decide +kernel) (by exact (ev_l1 (ev_lk_st1 e9 (by decide) rfl) (by decide) (by decide))) ?_
    refine ev_r_iald (pc := 49) hx5 (by decide +kernel) (by exact ev_ab_274) ?_
    intro x16 hx16
    refine ev_r_isub (pc := 50) (by decide +kernel) ?_
    intro x17 hx17
    refine ev_r_istore (pc := 51) (k := 5) (by decide +kernel) (by decide +kernel) rfl ?_
    refine ev_r_aload_n (pc := 53) (k := 0) (v := .ref 269) trivial (by decide +kernel) (by exact (ev_l1 (ev_l1 (ev_l1 e7 (by decide) (by decide)) (by decide) (by decide)) (by decide) (by decide))) ?_
    refine ev_r_getC (pc := 54) (y := 14) (ci := 3) (f := 0) (fin := 1) (k' := 270) (by decide +kernel) (by decide +kernel) (by exact ev_ob_269) rfl rfl ?_
    refine ev_r_aload_n (pc := 57) (k := 0) (v := .ref 269) trivial (by decide +kernel) (by exact (ev_l1 (ev_l1 (ev_l1 e7 (by decide) (by decide)) (by decide) (by decide)) (by decide) (by decide))) ?_
    refine ev_r_getC (pc := 58) (y := 21) (ci := 3) (f := 2) (fin := 1) (k' := 274) (by decide +kernel) (by decide +kernel) (by exact ev_ob_269) rfl rfl ?_
    refine ev_r_iload_n (pc := 61) (k := 3) (v := Int32.ofInt x5) (by decide +kernel) (by exact (ev_l1 (ev_l1 (ev_lk_st1 e9 (by decide) rfl) (by decide) (by decide)) (by decide) (by decide))) ?_
    refine ev_r_iald (pc := 62) hx5 (by decide +kernel) (by exact ev_ab_274) ?_
    intro x18 hx18
    refine ev_r_iload (pc := 63) (k := 5) (v := Int32.ofInt x17) (by decide +kernel) (by exact ev_lk_st1_self) ?_
    refine ev_r_aload_n (pc := 65) (k := 0) (v := .ref 269) trivial (by decide +kernel) (by exact (ev_l1 (ev_l1 (ev_l1 e7 (by decide) (by decide)) (by decide) (by decide)) (by decide) (by decide))) ?_
    refine ev_r_getC (pc := 66) (y := 18) (ci := 3) (f := 1) (fin := 1) (k' := 272) (by decide +kernel) (by decide +kernel) (by exact ev_ob_269) rfl rfl ?_
    refine ev_r_getC (pc := 69) (y := 81) (ci := 10) (f := 0) (fin := 2) (k' := 273) (by decide +kernel) (by decide +kernel) (by exact ev_ob_272) rfl rfl ?_
    refine ev_r_iload_n (pc := 72) (k := 2) (v := Int32.ofInt x14) (by decide +kernel) (by exact (ev_l1 ev_lk_st1_self (by decide) (by decide))) ?_
    refine ev_r_iload (pc := 73) (k := 4) (v := Int32.ofInt x13) (by decide +kernel) (by exact (ev_lk_st1 (ev_l1 ev_lk_st1_self (by decide) (by decide)) (by decide) rfl)) ?_
    refine ev_r_virt (pc := 75) (y := 82) (mi := 154) (na := 5) (k := 270) (as := [.int (Int32.ofInt x18), .int (Int32.ofInt x17), ev_nv ((273 + 1)), .int (Int32.ofInt x14), .int (Int32.ofInt x13)]) (rest := []) (encc := ev_oU) (Q := ev_PU) (fun x S1 h => jt_154 d (by omega) Q 270 x18 x17 ((273 + 1)) x14 x13 ev_ob_270 hx18 hx17 (by exact (Or.inr ev_ab_273)) hx14 hx13 s10 x S1 h) (by exact ev_ob_270) (by decide +kernel) (by decide +kernel) (by decide +kernel) (by decide +kernel) rfl (by (try simp only [ev_sum, ev_nv_cat]); first | done | rfl) ?_
    intro _ s19 _
    show ev_w _ _ _ _ _ [] _ _ _ _
    refine ev_r_aload_n (pc := 78) (k := 0) (v := .ref 269) trivial (by decide +kernel) (by exact (ev_l1 (ev_l1 (ev_l1 e7 (by decide) (by decide)) (by decide) (by decide)) (by decide) (by decide))) ?_
    refine ev_r_aload_n (pc := 79) (k := 0) (v := .ref 269) trivial (by decide +kernel) (by exact (ev_l1 (ev_l1 (ev_l1 e7 (by decide) (by decide)) (by decide) (by decide)) (by decide) (by decide))) ?_
    refine ev_r_getC (pc := 80) (y := 21) (ci := 3) (f := 2) (fin := 1) (k' := 274) (by decide +kernel) (by decide +kernel) (by exact ev_ob_269) rfl rfl ?_
    refine ev_r_iload_n (pc := 83) (k := 3) (v := Int32.ofInt x5) (by decide +kernel) (by exact (ev_l1 (ev_l1 (ev_lk_st1 e9 (by decide) rfl) (by decide) (by decide)) (by decide) (by decide))) ?_
    refine ev_r_iald (pc := 84) hx5 (by decide +kernel) (by exact ev_ab_274) ?_
    intro x20 hx20
    refine ev_r_iload (pc := 85) (k := 5) (v := Int32.ofInt x17) (by decide +kernel) (by exact ev_lk_st1_self) ?_
    refine ev_r_iload_n (pc := 87) (k := 2) (v := Int32.ofInt x14) (by decide +kernel) (by exact (ev_l1 ev_lk_st1_self (by decide) (by decide))) ?_
    refine ev_r_iload (pc := 88) (k := 4) (v := Int32.ofInt x13) (by decide +kernel) (by exact (ev_lk_st1 (ev_l1 ev_lk_st1_self (by decide) (by decide)) (by decide) rfl)) ?_
    refine ev_r_virt (pc := 90) (y := 86) (mi := 46) (na := 4) (k := 269) (as := [.int (Int32.ofInt x20), .int (Int32.ofInt x17), .int (Int32.ofInt x14), .int (Int32.ofInt x13)]) (rest := []) (encc := ev_oU) (Q := ev_PU) (fun x S1 h => jt_46 d (by omega) Q x20 x17 x14 x13 hx20 hx17 hx14 hx13 s19 x S1 h) (by exact ev_ob_269) (by decide +kernel) (by decide +kernel) (by decide +kernel) (by decide +kernel) rfl (by (try simp only [ev_sum, ev_nv_cat]); first | done | rfl) ?_
    intro _ s21 _
    show ev_w _ _ _ _ _ [] _ _ _ _
    refine ev_r_iinc (pc := 93) (k := 3) (c := -1) (x := x5) (by decide +kernel) (by decide +kernel) (by exact (ev_l1 (ev_l1 (ev_lk_st1 e9 (by decide) rfl) (by decide) (by decide)) (by decide) (by decide))) (fun _ => rfl) ?_
    intro x22 hx22
    refine ev_r_goto (pc := 96) (o := (-79)) (t := 17) (by decide +kernel) (by decide +kernel) ?_
    exact hK17 x14 hx14 x22 hx22 s21 _ (by exact (ev_l1 (ev_l1 (ev_l1 (ev_l1 e7 (by decide) (by decide)) (by decide) (by decide)) (by decide) (by decide)) (by decide) (by decide))) (by exact (ev_lk_st1 (ev_l1 ev_lk_st1_self (by decide) (by decide)) (by decide) rfl)) (by exact ev_lk_st1_self)
theorem jlt_45_17 (d : Nat) (hd : 2 ≤ d + 1) (Q : Nat)     : ∀ q : Nat, ∀ (x4 : Int) (hx4 : ev_rng x4), ∀ (x5 : Int) (hx5 : ev_rng x5), ∀ (s10 : ev_St) (w6 : List (Nat × Value)), ev_lk w6 0 = some (.ref 269) → ev_lk w6 2 = some (.int (Int32.ofInt x4)) → ev_lk w6 3 = some (.int (Int32.ofInt x5)) → ev_w none (ev_Mof 45) d 17 w6 [] s10 (jl_45_17 Q   q x4 x5 s10) ev_eU ev_PU := by
  intro q
  induction q with
  | zero =>
    intro x4 hx4 x5 hx5 s10 w6 e7 e8 e9
    exact ev_w_none
  | succ q ih => exact jbt_45_17 d hd Q     _ ih
/-- MendBench$Mender.addEdits(I)V -/
def jm_45 (Q : Nat) (a0 : Int) (S : ev_St) : Option ((Unit) × ev_St) := ev_b (S.1 272 1) fun x1 => ev_b (ev_imin a0 82) fun x2 => ev_ck (x2 - 1) fun x3 => jl_45_17 Q   Q x1 x3 S
theorem jt_45 (d : Nat) (hd : 2 ≤ d) (Q : Nat) (a0 : Int) (ha0 : ev_rng a0) (S : ev_St) (x : Unit) (S' : ev_St) (hJ : jm_45 Q a0 S = some (x, S')) : ev_Ref d 45 [.ref 269, .int (Int32.ofInt a0)] S (ev_eU x) S' (ev_PU x) := by
  obtain ⟨d, rfl⟩ : ∃ e, d = e + 1 := ⟨d - 1, by omega⟩
  refine ev_ref_of (P := ev_PU) (lv := [(0, .ref 269), (1, .int (Int32.ofInt a0))]) (by decide +kernel) (by (try simp only [ev_sum, ev_nv_cat]); first | done | rfl) (by (try simp only [lv_args, ev_nv_cat]); first | done | rfl) ?_ x S' hJ
  unfold jm_45
  refine ev_r_aload_n (pc := 0) (k := 0) (v := .ref 269) trivial (by decide +kernel) (by rfl) ?_
  refine ev_r_getC (pc := 1) (y := 18) (ci := 3) (f := 1) (fin := 1) (k' := 272) (by decide +kernel) (by decide +kernel) (by exact ev_ob_269) rfl rfl ?_
  refine ev_r_getI (pc := 4) (y := 54) (ci := 10) (f := 1) (fin := 0) (by decide +kernel) (by decide +kernel) (by exact ev_ob_272) rfl ?_
  intro x1 hx1
  refine ev_r_istore_n (pc := 7) (k := 2) (by decide +kernel) (by decide +kernel) rfl ?_
  refine ev_r_iload_n (pc := 8) (k := 1) (v := Int32.ofInt a0) (by decide +kernel) (by exact (ev_lk_st1 (by rfl) (by decide) rfl)) ?_
  refine ev_r_bipush (pc := 9) (k := 82) (by decide +kernel) (by decide +kernel) ?_
  refine ev_r_mm1 (pc := 11) (y := 75) (kd := 9) (Or.inl rfl) (by decide +kernel) (by decide +kernel) (by (try simp only [ev_sum, ev_nv_cat]); first | done | rfl) ?_
  intro x2 hx2
  refine ev_r_iconst (pc := 14) (k := 1) (by decide +kernel) ?_
  refine ev_r_isub (pc := 15) (by decide +kernel) ?_
  intro x3 hx3
  refine ev_r_istore_n (pc := 16) (k := 3) (by decide +kernel) (by decide +kernel) rfl ?_
  exact jlt_45_17 d hd Q     Q x1 hx1 x3 hx3 S _ (by exact (ev_l1 (ev_l1 (by rfl) (by decide) (by decide)) (by decide) (by decide))) (by exact (ev_lk_st1 ev_lk_st1_self (by decide) rfl)) (by exact ev_lk_st1_self)
def jb_44_26 (Q : Nat) (a0 : Nat) (a1 : Nat) (a2 : Nat) (a3 : Int)  (K26 : Int → Int → Int → Int → ev_St → Option ((Int) × ev_St)) (x3 : Int) (x4 : Int) (x5 : Int) (x6 : Int) (s17 : ev_St) : Option ((Int) × ev_St) := ev_jn (fun  (s22 : ev_St) => ev_b (s22.1 272 1) fun x23 => ev_ck (x5 + x23) fun x24 => if x24 ≤ 80 then (ev_bd (jm_45 Q x3 s22) fun _ s26 => some (x3, s26)) else (some ((-1), s22))) fun K179 => if a3 ≤ x6 then (K179  s17) else (if 82 ≤ x6 then (K179  s17) else (ev_b (s17.1 270 1) fun x29 => if x29 < x4 then (K179  s17) else (ev_if (a0 ≠ 0) (ev_bd (jm_115 Q a1 ((270 + 1)) x4 s17) fun x33 s32 => if x33 ≠ (-2) then (if 0 ≤ x33 then (ev_b (s32.1 272 1) fun x36 => ev_if ((0 : Int) ≤ x6 ∧ x6 < (ev_aln 276 : Int)) (ev_b (ev_pI s32 276 (Int.toNat x6) x36) fun s37 => ev_if (1000 ≠ 0) (ev_b (ev_idiv x33 1000) fun x38 => ev_if ((0 : Int) ≤ x6 ∧ x6 < (ev_aln 274 : Int)) (ev_b (ev_pI s37 274 (Int.toNat x6) x38) fun s39 => ev_if (1000 ≠ 0) (ev_b (ev_irem x33 1000) fun x40 => ev_if ((0 : Int) ≤ x6 ∧ x6 < (ev_aln 275 : Int)) (ev_b (ev_pI s39 275 (Int.toNat x6) x40) fun s41 => ev_ck (x3 + 1) fun x42 => ev_bd (jm_50 Q a2 a0 x42 s41) fun _ s43 => ev_if ((0 : Int) ≤ x6 ∧ x6 < (ev_aln 275 : Int)) (ev_b (s43.1 275 (Int.toNat x6)) fun x44 => ev_if ((0 : Int) ≤ x6 ∧ x6 < (ev_aln 274 : Int)) (ev_b (s43.1 274 (Int.toNat x6)) fun x45 => ev_ck (x44 - x45) fun x46 => ev_ck (x5 - x46) fun x47 => ev_b (s43.1 272 1) fun x48 => if x48 ≤ 80 then (ev_if (a0 ≠ 0) (ev_bd (jm_117 Q  s43) fun x52 s51 => ev_ck (x6 + 1) fun x53 => K26 x42 x52 x47 x53 s51)) else (some ((-1), s43)))))))))) else (K179  s32)) else (some ((-1), s32))))))
def jl_44_26 (Q : Nat) (a0 : Nat) (a1 : Nat) (a2 : Nat) (a3 : Int)  : Nat → Int → Int → Int → Int → ev_St → Option ((Int) × ev_St)
  | 0 => fun _ _ _ _ _ => none
  | q + 1 => jb_44_26 Q a0 a1 a2 a3  (jl_44_26 Q a0 a1 a2 a3  q)
theorem jbt_44_26 (d : Nat) (hd : 7 ≤ d + 1) (Q : Nat) (a0 : Nat) (a1 : Nat) (a2 : Nat) (a3 : Int) (ha0 : a0 = 0 ∨ ev_isOb (a0 - 1) 8 = true) (ha1 : a1 = 0 ∨ ev_isOb (a1 - 1) 5 = true) (ha2 : a2 = 0 ∨ ev_isOb (a2 - 1) 10 = true) (ha3 : ev_rng a3)   (K26 : Int → Int → Int → Int → ev_St → Option ((Int) × ev_St)) (hK26 : ∀ (x3 : Int) (hx3 : ev_rng x3), ∀ (x4 : Int) (hx4 : ev_rng x4), ∀ (x5 : Int) (hx5 : ev_rng x5), ∀ (x6 : Int) (hx6 : ev_rng x6), ∀ (s17 : ev_St) (w7 : List (Nat × Value)), ev_lk w7 0 = some (.ref 269) → ev_lk w7 1 = some (ev_nv a0) → ev_lk w7 2 = some (ev_nv a1) → ev_lk w7 3 = some (ev_nv a2) → ev_lk w7 4 = some (.int (Int32.ofInt a3)) → ev_lk w7 5 = some (.int (Int32.ofInt x3)) → ev_lk w7 6 = some (.int (Int32.ofInt x4)) → ev_lk w7 7 = some (.int (Int32.ofInt x5)) → ev_lk w7 8 = some (.int (Int32.ofInt x6)) → ev_w none (ev_Mof 44) d 26 w7 [] s17 (K26 x3 x4 x5 x6 s17) ev_eI ev_rng) : ∀ (x3 : Int) (hx3 : ev_rng x3), ∀ (x4 : Int) (hx4 : ev_rng x4), ∀ (x5 : Int) (hx5 : ev_rng x5), ∀ (x6 : Int) (hx6 : ev_rng x6), ∀ (s17 : ev_St) (w7 : List (Nat × Value)), ev_lk w7 0 = some (.ref 269) → ev_lk w7 1 = some (ev_nv a0) → ev_lk w7 2 = some (ev_nv a1) → ev_lk w7 3 = some (ev_nv a2) → ev_lk w7 4 = some (.int (Int32.ofInt a3)) → ev_lk w7 5 = some (.int (Int32.ofInt x3)) → ev_lk w7 6 = some (.int (Int32.ofInt x4)) → ev_lk w7 7 = some (.int (Int32.ofInt x5)) → ev_lk w7 8 = some (.int (Int32.ofInt x6)) → ev_w none (ev_Mof 44) d 26 w7 [] s17 (jb_44_26 Q a0 a1 a2 a3  K26 x3 x4 x5 x6 s17) ev_eI ev_rng := by
  intro x3 hx3 x4 hx4 x5 hx5 x6 hx6 s17 w7 e8 e9 e10 e11 e12 e13 e14 e15 e16
  unfold jb_44_26
  refine ev_r_iload (pc := 26) (k := 8) (v := Int32.ofInt x6) (by decide +kernel) (by exact e16) ?_
  refine ev_r_iload (pc := 28) (k := 4) (v := Int32.ofInt a3) (by decide +kernel) (by exact e12) ?_
  refine ev_r_jn (Q := fun K => ∀ (s22 : ev_St) (w18 : List (Nat × Value)), ev_lk w18 0 = some (.ref 269) → ev_lk w18 5 = some (.int (Int32.ofInt x3)) → ev_lk w18 7 = some (.int (Int32.ofInt x5)) → ev_w none (ev_Mof 44) d 179 w18 [] s22 (K  s22) ev_eI ev_rng) ?_ ?_
  · intro  s22 w18 e19 e20 e21
    refine ev_r_iload (pc := 179) (k := 7) (v := Int32.ofInt x5) (by decide +kernel) (by exact e21) ?_
    refine ev_r_aload_n (pc := 181) (k := 0) (v := .ref 269) trivial (by decide +kernel) (by exact e19) ?_
    refine ev_r_getC (pc := 182) (y := 18) (ci := 3) (f := 1) (fin := 1) (k' := 272) (by decide +kernel) (by decide +kernel) (by exact ev_ob_269) rfl rfl ?_
    refine ev_r_getI (pc := 185) (y := 54) (ci := 10) (f := 1) (fin := 0) (by decide +kernel) (by decide +kernel) (by exact ev_ob_272) rfl ?_
    intro x23 hx23
    refine ev_r_iadd (pc := 188) (by decide +kernel) ?_
    intro x24 hx24
    refine ev_r_bipush (pc := 189) (k := 80) (by decide +kernel) (by decide +kernel) ?_
    refine ev_r_icmp (pc := 191) (q := .le) (o := 5) (t := 196) (c := x24 ≤ 80) (by decide +kernel) (ev_k_le hx24 (by decide)) (by decide +kernel) ?_ ?_
    · intro c25
      refine ev_r_aload_n (pc := 196) (k := 0) (v := .ref 269) trivial (by decide +kernel) (by exact e19) ?_
      refine ev_r_iload (pc := 197) (k := 5) (v := Int32.ofInt x3) (by decide +kernel) (by exact e20) ?_
      refine ev_r_virt (pc := 199) (y := 71) (mi := 45) (na := 1) (k := 269) (as := [.int (Int32.ofInt x3)]) (rest := []) (encc := ev_oU) (Q := ev_PU) (fun x S1 h => jt_45 d (by omega) Q x3 hx3 s22 x S1 h) (by exact ev_ob_269) (by decide +kernel) (by decide +kernel) (by decide +kernel) (by decide +kernel) rfl (by (try simp only [ev_sum, ev_nv_cat]); first | done | rfl) ?_
      intro _ s26 _
      show ev_w _ _ _ _ _ [] _ _ _ _
      refine ev_r_iload (pc := 202) (k := 5) (v := Int32.ofInt x3) (by decide +kernel) (by exact e20) ?_
      exact ev_r_ireturn (pc := 204) (x := x3) (v := Int32.ofInt x3) (ty := .int) hx3 (by decide +kernel) (by decide +kernel) rfl rfl
    · intro c25
      refine ev_r_iconst (pc := 194) (k := -1) (by decide +kernel) ?_
      exact ev_r_ireturn (pc := 195) (x := (-1)) (v := Int32.ofInt ((-1))) (ty := .int) (by decide) (by decide +kernel) (by decide +kernel) rfl rfl
  · intro K179 hK179
    refine ev_r_icmp (pc := 30) (q := .ge) (o := 149) (t := 179) (c := a3 ≤ x6) (by decide +kernel) (ev_k_ge hx6 ha3) (by decide +kernel) ?_ ?_
    · intro c27
      exact hK179  s17 _ (by exact e8) (by exact e13) (by exact e15)
    · intro c27
      refine ev_r_iload (pc := 33) (k := 8) (v := Int32.ofInt x6) (by decide +kernel) (by exact e16) ?_
      refine ev_r_bipush (pc := 35) (k := 82) (by decide +kernel) (by decide +kernel) ?_
      refine ev_r_icmp (pc := 37) (q := .ge) (o := 142) (t := 179) (c := 82 ≤ x6) (by decide +kernel) (ev_k_ge hx6 (by decide)) (by decide +kernel) ?_ ?_
      · intro c28
        exact hK179  s17 _ (by exact e8) (by exact e13) (by exact e15)
      · intro c28
        refine ev_r_iload (pc := 40) (k := 6) (v := Int32.ofInt x4) (by decide +kernel) (by exact e14) ?_
        refine ev_r_aload_n (pc := 42) (k := 0) (v := .ref 269) trivial (by decide +kernel) (by exact e8) ?_
        refine ev_r_getC (pc := 43) (y := 14) (ci := 3) (f := 0) (fin := 1) (k' := 270) (by decide +kernel) (by decide +kernel) (by exact ev_ob_269) rfl rfl ?_
        refine ev_r_getI (pc := 46) (y := 54) (ci := 10) (f := 1) (fin := 0) (by decide +kernel) (by decide +kernel) (by exact ev_ob_270) rfl ?_
        intro x29 hx29
        refine ev_r_icmp (pc := 49) (q := .gt) (o := 130) (t := 179) (c := x29 < x4) (by decide +kernel) (ev_k_gt hx4 hx29) (by decide +kernel) ?_ ?_
        · intro c30
          exact hK179  s17 _ (by exact e8) (by exact e13) (by exact e15)
        · intro c30
          refine ev_r_aload_n (pc := 52) (k := 1) (v := ev_nv a0) (ev_isR_nv _) (by decide +kernel) (by exact e9) ?_
          refine ev_r_aload_n (pc := 53) (k := 2) (v := ev_nv a1) (ev_isR_nv _) (by decide +kernel) (by exact e10) ?_
          refine ev_r_aload_n (pc := 54) (k := 0) (v := .ref 269) trivial (by decide +kernel) (by exact e8) ?_
          refine ev_r_getC (pc := 55) (y := 14) (ci := 3) (f := 0) (fin := 1) (k' := 270) (by decide +kernel) (by decide +kernel) (by exact ev_ob_269) rfl rfl ?_
          refine ev_r_iload (pc := 58) (k := 6) (v := Int32.ofInt x4) (by decide +kernel) (by exact e14) ?_
          refine ev_r_chk ?_
          intro c31
          refine ev_r_dr2 (r := a0) (k := 281) (fun v => [.int (Int32.ofInt x4), .ref 270, ev_nv a1, v]) c31 (ev_on_8 (ha0.resolve_left c31)) ?_
          refine ev_r_virt (pc := 60) (y := 57) (mi := 115) (na := 3) (k := 281) (as := [ev_nv a1, ev_nv ((270 + 1)), .int (Int32.ofInt x4)]) (rest := []) (encc := ev_oI) (Q := ev_rng) (fun x S1 h => jt_115 d (by omega) Q a1 ((270 + 1)) x4 (by exact ha1) (by exact (Or.inr ev_ob_270)) hx4 s17 x S1 h) (by exact ev_ob_281) (by decide +kernel) (by decide +kernel) (by decide +kernel) (by decide +kernel) rfl (by (try simp only [ev_sum, ev_nv_cat]); first | done | rfl) ?_
          intro x33 s32 hx33
          show ev_w _ _ _ _ _ [.int (Int32.ofInt x33)] _ _ _ _
          refine ev_r_istore (pc := 63) (k := 9) (by decide +kernel) (by decide +kernel) rfl ?_
          refine ev_r_iload (pc := 65) (k := 9) (v := Int32.ofInt x33) (by decide +kernel) (by exact ev_lk_st1_self) ?_
          refine ev_r_bipush (pc := 67) (k := -2) (by decide +kernel) (by decide +kernel) ?_
          refine ev_r_icmp (pc := 69) (q := .ne) (o := 5) (t := 74) (c := x33 ≠ (-2)) (by decide +kernel) (ev_k_ne hx33 (by decide)) (by decide +kernel) ?_ ?_
          · intro c34
            refine ev_r_iload (pc := 74) (k := 9) (v := Int32.ofInt x33) (by decide +kernel) (by exact ev_lk_st1_self) ?_
            refine ev_r_if (pc := 76) (q := .ge) (o := 6) (t := 82) (c := 0 ≤ x33) (by decide +kernel) (ev_k_ge hx33 ev_rng0) (by decide +kernel) ?_ ?_
            · intro c35
              refine ev_r_aload_n (pc := 82) (k := 0) (v := .ref 269) trivial (by decide +kernel) (by exact (ev_l1 e8 (by decide) (by decide))) ?_
              refine ev_r_getC (pc := 83) (y := 28) (ci := 3) (f := 4) (fin := 1) (k' := 276) (by decide +kernel) (by decide +kernel) (by exact ev_ob_269) rfl rfl ?_
              refine ev_r_iload (pc := 86) (k := 8) (v := Int32.ofInt x6) (by decide +kernel) (by exact (ev_lk_st1 e16 (by decide) rfl)) ?_
              refine ev_r_aload_n (pc := 88) (k := 0) (v := .ref 269) trivial (by decide +kernel) (by exact (ev_l1 e8 (by decide) (by decide))) ?_
              refine ev_r_getC (pc := 89) (y := 18) (ci := 3) (f := 1) (fin := 1) (k' := 272) (by decide +kernel) (by decide +kernel) (by exact ev_ob_269) rfl rfl ?_
              refine ev_r_getI (pc := 92) (y := 54) (ci := 10) (f := 1) (fin := 0) (by decide +kernel) (by decide +kernel) (by exact ev_ob_272) rfl ?_
              intro x36 hx36
              refine ev_r_iast (pc := 95) hx36 hx6 (by decide +kernel) (by exact ev_ab_276) ?_
              intro s37
              refine ev_r_aload_n (pc := 96) (k := 0) (v := .ref 269) trivial (by decide +kernel) (by exact (ev_l1 e8 (by decide) (by decide))) ?_
              refine ev_r_getC (pc := 97) (y := 21) (ci := 3) (f := 2) (fin := 1) (k' := 274) (by decide +kernel) (by decide +kernel) (by exact ev_ob_269) rfl rfl ?_
              refine ev_r_iload (pc := 100) (k := 8) (v := Int32.ofInt x6) (by decide +kernel) (by exact (ev_lk_st1 e16 (by decide) rfl)) ?_
              refine ev_r_iload (pc := 102) (k := 9) (v := Int32.ofInt x33) (by decide +kernel) (by exact ev_lk_st1_self) ?_
              refine ev_r_sipush (pc := 104) (k := 1000) (by decide +kernel) (by decide +kernel) ?_
              refine ev_r_idiv (pc := 107) (by decide) (by decide +kernel) ?_
              intro x38 hx38
              refine ev_r_iast (pc := 108) hx38 hx6 (by decide +kernel) (by exact ev_ab_274) ?_
              intro s39
              refine ev_r_aload_n (pc := 109) (k := 0) (v := .ref 269) trivial (by decide +kernel) (by exact (ev_l1 e8 (by decide) (by decide))) ?_
              refine ev_r_getC (pc := 110) (y := 25) (ci := 3) (f := 3) (fin := 1) (k' := 275) (by decide +kernel) (by decide +kernel) (by exact ev_ob_269) rfl rfl ?_
              refine ev_r_iload (pc := 113) (k := 8) (v := Int32.ofInt x6) (by decide +kernel) (by exact (ev_lk_st1 e16 (by decide) rfl)) ?_
              refine ev_r_iload (pc := 115) (k := 9) (v := Int32.ofInt x33) (by decide +kernel) (by exact ev_lk_st1_self) ?_
              refine ev_r_sipush (pc := 117) (k := 1000) (by decide +kernel) (by decide +kernel) ?_
              refine ev_r_irem (pc := 120) (by decide) (by decide +kernel) ?_
              intro x40 hx40
              refine ev_r_iast (pc := 121) hx40 hx6 (by decide +kernel) (by exact ev_ab_275) ?_
              intro s41
              refine ev_r_iinc (pc := 122) (k := 5) (c := 1) (x := x3) (by decide +kernel) (by decide +kernel) (by exact (ev_l1 e13 (by decide) (by decide))) (fun _ => rfl) ?_
              intro x42 hx42
              refine ev_r_aload_n (pc := 125) (k := 0) (v := .ref 269) trivial (by decide +kernel) (by exact (ev_l1 (ev_l1 e8 (by decide) (by decide)) (by decide) (by decide))) ?_
              refine ev_r_aload_n (pc := 126) (k := 3) (v := ev_nv a2) (ev_isR_nv _) (by decide +kernel) (by exact (ev_l1 (ev_l1 e11 (by decide) (by decide)) (by decide) (by decide))) ?_
              refine ev_r_aload_n (pc := 127) (k := 1) (v := ev_nv a0) (ev_isR_nv _) (by decide +kernel) (by exact (ev_l1 (ev_l1 e9 (by decide) (by decide)) (by decide) (by decide))) ?_
              refine ev_r_iload (pc := 128) (k := 5) (v := Int32.ofInt x42) (by decide +kernel) (by exact ev_lk_st1_self) ?_
              refine ev_r_virt (pc := 130) (y := 63) (mi := 50) (na := 3) (k := 269) (as := [ev_nv a2, ev_nv a0, .int (Int32.ofInt x42)]) (rest := []) (encc := ev_oU) (Q := ev_PU) (fun x S1 h => jt_50 d (by omega) Q a2 a0 x42 (by exact ha2) (by exact ha0) hx42 s41 x S1 h) (by exact ev_ob_269) (by decide +kernel) (by decide +kernel) (by decide +kernel) (by decide +kernel) rfl (by (try simp only [ev_sum, ev_nv_cat]); first | done | rfl) ?_
              intro _ s43 _
              show ev_w _ _ _ _ _ [] _ _ _ _
              refine ev_r_iload (pc := 133) (k := 7) (v := Int32.ofInt x5) (by decide +kernel) (by exact (ev_l1 (ev_l1 e15 (by decide) (by decide)) (by decide) (by decide))) ?_
              refine ev_r_aload_n (pc := 135) (k := 0) (v := .ref 269) trivial (by decide +kernel) (by exact (ev_l1 (ev_l1 e8 (by decide) (by decide)) (by decide) (by decide))) ?_
              refine ev_r_getC (pc := 136) (y := 25) (ci := 3) (f := 3) (fin := 1) (k' := 275) (by decide +kernel) (by decide +kernel) (by exact ev_ob_269) rfl rfl ?_
              refine ev_r_iload (pc := 139) (k := 8) (v := Int32.ofInt x6) (by decide +kernel) (by exact (ev_l1 (ev_lk_st1 e16 (by decide) rfl) (by decide) (by decide))) ?_
              refine ev_r_iald (pc := 141) hx6 (by decide +kernel) (by exact ev_ab_275) ?_
              intro x44 hx44
              refine ev_r_aload_n (pc := 142) (k := 0) (v := .ref 269) trivial (by decide +kernel) (by exact (ev_l1 (ev_l1 e8 (by decide) (by decide)) (by decide) (by decide))) ?_
              refine ev_r_getC (pc := 143) (y := 21) (ci := 3) (f := 2) (fin := 1) (k' := 274) (by decide +kernel) (by decide +kernel) (by exact ev_ob_269) rfl rfl ?_
              refine ev_r_iload (pc := 146) (k := 8) (v := Int32.ofInt x6) (by decide +kernel) (by exact (ev_l1 (ev_lk_st1 e16 (by decide) rfl) (by decide) (by decide))) ?_
              refine ev_r_iald (pc := 148) hx6 (by decide +kernel) (by exact ev_ab_274) ?_
              intro x45 hx45
              refine ev_r_isub (pc := 149) (by decide +kernel) ?_
              intro x46 hx46
              refine ev_r_isub (pc := 150) (by decide +kernel) ?_
              intro x47 hx47
              refine ev_r_istore (pc := 151) (k := 7) (by decide +kernel) (by decide +kernel) rfl ?_
              refine ev_r_aload_n (pc := 153) (k := 0) (v := .ref 269) trivial (by decide +kernel) (by exact (ev_l1 (ev_l1 (ev_l1 e8 (by decide) (by decide)) (by decide) (by decide)) (by decide) (by decide))) ?_
              refine ev_r_getC (pc := 154) (y := 18) (ci := 3) (f := 1) (fin := 1) (k' := 272) (by decide +kernel) (by decide +kernel) (by exact ev_ob_269) rfl rfl ?_
              refine ev_r_getI (pc := 157) (y := 54) (ci := 10) (f := 1) (fin := 0) (by decide +kernel) (by decide +kernel) (by exact ev_ob_272) rfl ?_
              intro x48 hx48
              refine ev_r_bipush (pc := 160) (k := 80) (by decide +kernel) (by decide +kernel) ?_
              refine ev_r_icmp (pc := 162) (q := .le) (o := 5) (t := 167) (c := x48 ≤ 80) (by decide +kernel) (ev_k_le hx48 (by decide)) (by decide +kernel) ?_ ?_
              · intro c49
                refine ev_r_aload_n (pc := 167) (k := 1) (v := ev_nv a0) (ev_isR_nv _) (by decide +kernel) (by exact (ev_l1 (ev_l1 (ev_l1 e9 (by decide) (by decide)) (by decide) (by decide)) (by decide) (by decide))) ?_
                refine ev_r_chk ?_
                intro c50
                refine ev_r_dr2 (r := a0) (k := 281) (fun v => [v]) c50 (ev_on_8 (ha0.resolve_left c50)) ?_
                refine ev_r_virt (pc := 168) (y := 67) (mi := 117) (na := 0) (k := 281) (as := []) (rest := []) (encc := ev_oI) (Q := ev_rng) (fun x S1 h => jt_117 d (by omega) Q   s43 x S1 h) (by exact ev_ob_281) (by decide +kernel) (by decide +kernel) (by decide +kernel) (by decide +kernel) rfl (by (try simp only [ev_sum, ev_nv_cat]); first | done | rfl) ?_
                intro x52 s51 hx52
                show ev_w _ _ _ _ _ [.int (Int32.ofInt x52)] _ _ _ _
                refine ev_r_istore (pc := 171) (k := 6) (by decide +kernel) (by decide +kernel) rfl ?_
                refine ev_r_iinc (pc := 173) (k := 8) (c := 1) (x := x6) (by decide +kernel) (by decide +kernel) (by exact (ev_l1 (ev_l1 (ev_l1 (ev_lk_st1 e16 (by decide) rfl) (by decide) (by decide)) (by decide) (by decide)) (by decide) (by decide))) (fun _ => rfl) ?_
                intro x53 hx53
                refine ev_r_goto (pc := 176) (o := (-150)) (t := 26) (by decide +kernel) (by decide +kernel) ?_
                exact hK26 x42 hx42 x52 hx52 x47 hx47 x53 hx53 s51 _ (by exact (ev_l1 (ev_l1 (ev_l1 (ev_l1 (ev_l1 e8 (by decide) (by decide)) (by decide) (by decide)) (by decide) (by decide)) (by decide) (by decide)) (by decide) (by decide))) (by exact (ev_l1 (ev_l1 (ev_l1 (ev_l1 (ev_l1 e9 (by decide) (by decide)) (by decide) (by decide)) (by decide) (by decide)) (by decide) (by decide)) (by decide) (by decide))) (by exact (ev_l1 (ev_l1 (ev_l1 (ev_l1 (ev_l1 e10 (by decide) (by decide)) (by decide) (by decide)) (by decide) (by decide)) (by decide) (by decide)) (by decide) (by decide))) (by exact (ev_l1 (ev_l1 (ev_l1 (ev_l1 (ev_l1 e11 (by decide) (by decide)) (by decide) (by decide)) (by decide) (by decide)) (by decide) (by decide)) (by decide) (by decide))) (by exact (ev_l1 (ev_l1 (ev_l1 (ev_lk_st1 (ev_l1 e12 (by decide) (by decide)) (by decide) rfl) (by decide) (by decide)) (by decide) (by decide)) (by decide) (by decide))) (by exact (ev_l1 (ev_lk_st1 (ev_l1 ev_lk_st1_self (by decide) (by decide)) (by decide) rfl) (by decide) (by decide))) (by exact (ev_l1 ev_lk_st1_self (by decide) (by decide))) (by exact (ev_lk_st1 (ev_l1 ev_lk_st1_self (by decide) (by decide)) (by decide) rfl)) (by exact ev_lk_st1_self)
              · intro c49
                refine ev_r_iconst (pc := 165) (k := -1) (by decide +kernel) ?_
                exact ev_r_ireturn (pc := 166) (x := (-1)) (v := Int32.ofInt ((-1))) (ty := .int) (by decide) (by decide +kernel) (by decide +kernel) rfl rfl
            · intro c35
              refine ev_r_goto (pc := 79) (o := 100) (t := 179) (by decide +kernel) (by decide +kernel) ?_
              exact hK179  s32 _ (by exact (ev_l1 e8 (by decide) (by decide))) (by exact (ev_l1 e13 (by decide) (by decide))) (by exact (ev_l1 e15 (by decide) (by decide)))
          · intro c34
            refine ev_r_iconst (pc := 72) (k := -1) (by decide +kernel) ?_
            exact ev_r_ireturn (pc := 73) (x := (-1)) (v := Int32.ofInt ((-1))) (ty := .int) (by decide) (by decide +kernel) (by decide +kernel) rfl rfl
theorem jlt_44_26 (d : Nat) (hd : 7 ≤ d + 1) (Q : Nat) (a0 : Nat) (a1 : Nat) (a2 : Nat) (a3 : Int) (ha0 : a0 = 0 ∨ ev_isOb (a0 - 1) 8 = true) (ha1 : a1 = 0 ∨ ev_isOb (a1 - 1) 5 = true) (ha2 : a2 = 0 ∨ ev_isOb (a2 - 1) 10 = true) (ha3 : ev_rng a3)   : ∀ q : Nat, ∀ (x3 : Int) (hx3 : ev_rng x3), ∀ (x4 : Int) (hx4 : ev_rng x4), ∀ (x5 : Int) (hx5 : ev_rng x5), ∀ (x6 : Int) (hx6 : ev_rng x6), ∀ (s17 : ev_St) (w7 : List (Nat × Value)), ev_lk w7 0 = some (.ref 269) → ev_lk w7 1 = some (ev_nv a0) → ev_lk w7 2 = some (ev_nv a1) → ev_lk w7 3 = some (ev_nv a2) → ev_lk w7 4 = some (.int (Int32.ofInt a3)) → ev_lk w7 5 = some (.int (Int32.ofInt x3)) → ev_lk w7 6 = some (.int (Int32.ofInt x4)) → ev_lk w7 7 = some (.int (Int32.ofInt x5)) → ev_lk w7 8 = some (.int (Int32.ofInt x6)) → ev_w none (ev_Mof 44) d 26 w7 [] s17 (jl_44_26 Q a0 a1 a2 a3  q x3 x4 x5 x6 s17) ev_eI ev_rng := by
  intro q
  induction q with
  | zero =>
    intro x3 hx3 x4 hx4 x5 hx5 x6 hx6 s17 w7 e8 e9 e10 e11 e12 e13 e14 e15 e16
    exact ev_w_none
  | succ q ih => exact jbt_44_26 d hd Q a0 a1 a2 a3 ha0 ha1 ha2 ha3   _ ih
/-- MendBench$Mender.prepare(LMendBench$Search;LMendBench$Pattern;LMendBench$Text;I)I -/
def jm_44 (Q : Nat) (a0 : Nat) (a1 : Nat) (a2 : Nat) (a3 : Int) (S : ev_St) : Option ((Int) × ev_St) := ev_b (ev_pI S 272 1 0) fun s1 => ev_b (s1.1 270 1) fun x2 => jl_44_26 Q a0 a1 a2 a3  Q 0 0 x2 0 s1
theorem jt_44 (d : Nat) (hd : 7 ≤ d) (Q : Nat) (a0 : Nat) (a1 : Nat) (a2 : Nat) (a3 : Int) (ha0 : a0 = 0 ∨ ev_isOb (a0 - 1) 8 = true) (ha1 : a1 = 0 ∨ ev_isOb (a1 - 1) 5 = true) (ha2 : a2 = 0 ∨ ev_isOb (a2 - 1) 10 = true) (ha3 : ev_rng a3) (S : ev_St) (x : Int) (S' : ev_St) (hJ : jm_44 Q a0 a1 a2 a3 S = some (x, S')) : ev_Ref d 44 [.ref 269, ev_nv a0, ev_nv a1, ev_nv a2, .int (Int32.ofInt a3)] S (ev_eI x) S' (ev_rng x) := by
  obtain ⟨d, rfl⟩ : ∃ e, d = e + 1 := ⟨d - 1, by omega⟩
  refine ev_ref_of (P := ev_rng) (lv := [(0, .ref 269), (1, ev_nv a0), (2, ev_nv a1), (3, ev_nv a2), (4, .int (Int32.ofInt a3))]) (by decide +kernel) (by (try simp only [ev_sum, ev_nv_cat]); first | done | rfl) (by (try simp only [lv_args, ev_nv_cat]); first | done | rfl) ?_ x S' hJ
  unfold jm_44
  refine ev_r_aload_n (pc := 0) (k := 0) (v := .ref 269) trivial (by decide +kernel) (by rfl) ?_
  refine ev_r_getC (pc := 1) (y := 18) (ci := 3) (f := 1) (fin := 1) (k' := 272) (by decide +kernel) (by decide +kernel) (by exact ev_ob_269) rfl rfl ?_
  refine ev_r_iconst (pc := 4) (k := 0) (by decide +kernel) ?_
  refine ev_r_putI (pc := 5) (y := 54) (ci := 10) (f := 1) (by decide) (by decide +kernel) (by decide +kernel) (by exact ev_ob_272) rfl rfl ?_
  intro s1
  refine ev_r_iconst (pc := 8) (k := 0) (by decide +kernel) ?_
  refine ev_r_istore (pc := 9) (k := 5) (by decide +kernel) (by decide +kernel) rfl ?_
  refine ev_r_iconst (pc := 11) (k := 0) (by decide +kernel) ?_
  refine ev_r_istore (pc := 12) (k := 6) (by decide +kernel) (by decide +kernel) rfl ?_
  refine ev_r_aload_n (pc := 14) (k := 0) (v := .ref 269) trivial (by decide +kernel) (by exact (ev_l1 (ev_l1 (by rfl) (by decide) (by decide)) (by decide) (by decide))) ?_
  refine ev_r_getC (pc := 15) (y := 14) (ci := 3) (f := 0) (fin := 1) (k' := 270) (by decide +kernel) (by decide +kernel) (by exact ev_ob_269) rfl rfl ?_
  refine ev_r_getI (pc := 18) (y := 54) (ci := 10) (f := 1) (fin := 0) (by decide +kernel) (by decide +kernel) (by exact ev_ob_270) rfl ?_
  intro x2 hx2
  refine ev_r_istore (pc := 21) (k := 7) (by decide +kernel) (by decide +kernel) rfl ?_
  refine ev_r_iconst (pc := 23) (k := 0) (by decide +kernel) ?_
  refine ev_r_istore (pc := 24) (k := 8) (by decide +kernel) (by decide +kernel) rfl ?_
  exact jlt_44_26 d hd Q a0 a1 a2 a3 ha0 ha1 ha2 ha3   Q 0 (by decide) 0 (by decide) x2 hx2 0 (by decide) s1 _ (by exact (ev_l1 (ev_l1 (ev_l1 (ev_l1 (by rfl) (by decide) (by decide)) (by decide) (by decide)) (by decide) (by decide)) (by decide) (by decide))) (by exact (ev_l1 (ev_l1 (ev_l1 (ev_l1 (by rfl) (by decide) (by decide)) (by decide) (by decide)) (by decide) (by decide)) (by decide) (by decide))) (by exact (ev_l1 (ev_l1 (ev_l1 (ev_l1 (by rfl) (by decide) (by decide)) (by decide) (by decide)) (by decide) (by decide)) (by decide) (by decide))) (by exact (ev_l1 (ev_l1 (ev_l1 (ev_l1 (by rfl) (by decide) (by decide)) (by decide) (by decide)) (by decide) (by decide)) (by decide) (by decide))) (by exact (ev_l1 (ev_l1 (ev_l1 (ev_lk_st1 (by rfl) (by decide) rfl) (by decide) (by decide)) (by decide) (by decide)) (by decide) (by decide))) (by exact (ev_l1 (ev_l1 (ev_lk_st1 ev_lk_st1_self (by decide) rfl) (by decide) (by decide)) (by decide) (by decide))) (by exact (ev_l1 (ev_lk_st1 ev_lk_st1_self (by decide) rfl) (by decide) (by decide))) (by exact (ev_lk_st1 ev_lk_st1_self (by decide) rfl)) (by exact ev_lk_st1_self)
def jb_47_5 (Q : Nat) (a0 : Nat) (a1 : Int)  (K5 : Int → Int → ev_St → Option ((Unit) × ev_St)) (x1 : Int) (x2 : Int) (s9 : ev_St) : Option ((Unit) × ev_St) := ev_b (s9.1 269 9) fun x10 => ev_jn (fun  (s13 : ev_St) => ev_if (a0 ≠ 0) (ev_bd (jm_3 Q  s13) fun _ s15 => some ((), s15))) fun K69 => if x10 ≤ x2 then (K69  s9) else (if 820 ≤ x2 then (K69  s9) else (ev_if ((0 : Int) ≤ x2 ∧ x2 < (ev_aln 277 : Int)) (ev_b (s9.1 277 (Int.toNat x2)) fun x18 => ev_if ((0 : Int) ≤ x2 ∧ x2 < (ev_aln 278 : Int)) (ev_b (s9.1 278 (Int.toNat x2)) fun x19 => ev_if ((0 : Int) ≤ x2 ∧ x2 < (ev_aln 279 : Int)) (ev_b (s9.1 279 (Int.toNat x2)) fun x20 => ev_if (a0 ≠ 0) (ev_bd (jm_4 Q a1 x18 x19 ((280 + 1)) x1 x20 s9) fun _ s22 => ev_if ((0 : Int) ≤ x2 ∧ x2 < (ev_aln 279 : Int)) (ev_b (s22.1 279 (Int.toNat x2)) fun x23 => ev_ck (x1 + x23) fun x24 => ev_ck (x2 + 1) fun x25 => K5 x24 x25 s22)))))))
def jl_47_5 (Q : Nat) (a0 : Nat) (a1 : Int)  : Nat → Int → Int → ev_St → Option ((Unit) × ev_St)
  | 0 => fun _ _ _ => none
  | q + 1 => jb_47_5 Q a0 a1  (jl_47_5 Q a0 a1  q)
theorem jbt_47_5 (d : Nat) (hd : 5 ≤ d + 1) (Q : Nat) (a0 : Nat) (a1 : Int) (ha0 : a0 = 0 ∨ ev_isOb (a0 - 1) 0 = true) (ha1 : ev_rng a1)   (K5 : Int → Int → ev_St → Option ((Unit) × ev_St)) (hK5 : ∀ (x1 : Int) (hx1 : ev_rng x1), ∀ (x2 : Int) (hx2 : ev_rng x2), ∀ (s9 : ev_St) (w3 : List (Nat × Value)), ev_lk w3 0 = some (.ref 269) → ev_lk w3 1 = some (ev_nv a0) → ev_lk w3 2 = some (.int (Int32.ofInt a1)) → ev_lk w3 3 = some (.int (Int32.ofInt x1)) → ev_lk w3 4 = some (.int (Int32.ofInt x2)) → ev_w none (ev_Mof 47) d 5 w3 [] s9 (K5 x1 x2 s9) ev_eU ev_PU) : ∀ (x1 : Int) (hx1 : ev_rng x1), ∀ (x2 : Int) (hx2 : ev_rng x2), ∀ (s9 : ev_St) (w3 : List (Nat × Value)), ev_lk w3 0 = some (.ref 269) → ev_lk w3 1 = some (ev_nv a0) → ev_lk w3 2 = some (.int (Int32.ofInt a1)) → ev_lk w3 3 = some (.int (Int32.ofInt x1)) → ev_lk w3 4 = some (.int (Int32.ofInt x2)) → ev_w none (ev_Mof 47) d 5 w3 [] s9 (jb_47_5 Q a0 a1  K5 x1 x2 s9) ev_eU ev_PU := by
  intro x1 hx1 x2 hx2 s9 w3 e4 e5 e6 e7 e8
  unfold jb_47_5
  refine ev_r_iload (pc := 5) (k := 4) (v := Int32.ofInt x2) (by decide +kernel) (by exact e8) ?_
  refine ev_r_aload_n (pc := 7) (k := 0) (v := .ref 269) trivial (by decide +kernel) (by exact e4) ?_
  refine ev_r_getI (pc := 8) (y := 47) (ci := 3) (f := 9) (fin := 0) (by decide +kernel) (by decide +kernel) (by exact ev_ob_269) rfl ?_
  intro x10 hx10
  refine ev_r_jn (Q := fun K => ∀ (s13 : ev_St) (w11 : List (Nat × Value)), ev_lk w11 1 = some (ev_nv a0) → ev_w none (ev_Mof 47) d 69 w11 [] s13 (K  s13) ev_eU ev_PU) ?_ ?_
  · intro  s13 w11 e12
    refine ev_r_aload_n (pc := 69) (k := 1) (v := ev_nv a0) (ev_isR_nv _) (by decide +kernel) (by exact e12) ?_
    refine ev_r_chk ?_
    intro c14
    refine ev_r_dr2 (r := a0) (k := 254) (fun v => [v]) c14 (ev_on_0 (ha0.resolve_left c14)) ?_
    refine ev_r_virt (pc := 70) (y := 102) (mi := 3) (na := 0) (k := 254) (as := []) (rest := []) (encc := ev_oU) (Q := ev_PU) (fun x S1 h => jt_3 d (by omega) Q   s13 x S1 h) (by exact ev_ob_254) (by decide +kernel) (by decide +kernel) (by decide +kernel) (by decide +kernel) rfl (by (try simp only [ev_sum, ev_nv_cat]); first | done | rfl) ?_
    intro _ s15 _
    show ev_w _ _ _ _ _ [] _ _ _ _
    exact ev_r_return (pc := 73) (x := ()) trivial (by decide +kernel) (by decide +kernel) rfl
  · intro K69 hK69
    refine ev_r_icmp (pc := 11) (q := .ge) (o := 58) (t := 69) (c := x10 ≤ x2) (by decide +kernel) (ev_k_ge hx2 hx10) (by decide +kernel) ?_ ?_
    · intro c16
      exact hK69  s9 _ (by exact e5)
    · intro c16
      refine ev_r_iload (pc := 14) (k := 4) (v := Int32.ofInt x2) (by decide +kernel) (by exact e8) ?_
      refine ev_r_sipush (pc := 16) (k := 820) (by decide +kernel) (by decide +kernel) ?_
      refine ev_r_icmp (pc := 19) (q := .ge) (o := 50) (t := 69) (c := 820 ≤ x2) (by decide +kernel) (ev_k_ge hx2 (by decide)) (by decide +kernel) ?_ ?_
      · intro c17
        exact hK69  s9 _ (by exact e5)
      · intro c17
        refine ev_r_aload_n (pc := 22) (k := 1) (v := ev_nv a0) (ev_isR_nv _) (by decide +kernel) (by exact e5) ?_
        refine ev_r_iload_n (pc := 23) (k := 2) (v := Int32.ofInt a1) (by decide +kernel) (by exact e6) ?_
        refine ev_r_aload_n (pc := 24) (k := 0) (v := .ref 269) trivial (by decide +kernel) (by exact e4) ?_
        refine ev_r_getC (pc := 25) (y := 31) (ci := 3) (f := 5) (fin := 1) (k' := 277) (by decide +kernel) (by decide +kernel) (by exact ev_ob_269) rfl rfl ?_
        refine ev_r_iload (pc := 28) (k := 4) (v := Int32.ofInt x2) (by decide +kernel) (by exact e8) ?_
        refine ev_r_iald (pc := 30) hx2 (by decide +kernel) (by exact ev_ab_277) ?_
        intro x18 hx18
        refine ev_r_aload_n (pc := 31) (k := 0) (v := .ref 269) trivial (by decide +kernel) (by exact e4) ?_
        refine ev_r_getC (pc := 32) (y := 34) (ci := 3) (f := 6) (fin := 1) (k' := 278) (by decide +kernel) (by decide +kernel) (by exact ev_ob_269) rfl rfl ?_
        refine ev_r_iload (pc := 35) (k := 4) (v := Int32.ofInt x2) (by decide +kernel) (by exact e8) ?_
        refine ev_r_iald (pc := 37) hx2 (by decide +kernel) (by exact ev_ab_278) ?_
        intro x19 hx19
        refine ev_r_aload_n (pc := 38) (k := 0) (v := .ref 269) trivial (by decide +kernel) (by exact e4) ?_
        refine ev_r_getC (pc := 39) (y := 40) (ci := 3) (f := 8) (fin := 1) (k' := 280) (by decide +kernel) (by decide +kernel) (by exact ev_ob_269) rfl rfl ?_
        refine ev_r_iload_n (pc := 42) (k := 3) (v := Int32.ofInt x1) (by decide +kernel) (by exact e7) ?_
        refine ev_r_aload_n (pc := 43) (k := 0) (v := .ref 269) trivial (by decide +kernel) (by exact e4) ?_
        refine ev_r_getC (pc := 44) (y := 37) (ci := 3) (f := 7) (fin := 1) (k' := 279) (by decide +kernel) (by decide +kernel) (by exact ev_ob_269) rfl rfl ?_
        refine ev_r_iload (pc := 47) (k := 4) (v := Int32.ofInt x2) (by decide +kernel) (by exact e8) ?_
        refine ev_r_iald (pc := 49) hx2 (by decide +kernel) (by exact ev_ab_279) ?_
        intro x20 hx20
        refine ev_r_chk ?_
        intro c21
        refine ev_r_dr2 (r := a0) (k := 254) (fun v => [.int (Int32.ofInt x20), .int (Int32.ofInt x1), .ref 280, .int (Int32.ofInt x19), .int (Int32.ofInt x18), .int (Int32.ofInt a1), v]) c21 (ev_on_0 (ha0.resolve_left c21)) ?_
        refine ev_r_virt (pc := 50) (y := 96) (mi := 4) (na := 6) (k := 254) (as := [.int (Int32.ofInt a1), .int (Int32.ofInt x18), .int (Int32.ofInt x19), ev_nv ((280 + 1)), .int (Int32.ofInt x1), .int (Int32.ofInt x20)]) (rest := []) (encc := ev_oU) (Q := ev_PU) (fun x S1 h => jt_4 d (by omega) Q a1 x18 x19 ((280 + 1)) x1 x20 ha1 hx18 hx19 (by exact (Or.inr ev_ab_280)) hx1 hx20 s9 x S1 h) (by exact ev_ob_254) (by decide +kernel) (by decide +kernel) (by decide +kernel) (by decide +kernel) rfl (by (try simp only [ev_sum, ev_nv_cat]); first | done | rfl) ?_
        intro _ s22 _
        show ev_w _ _ _ _ _ [] _ _ _ _
        refine ev_r_iload_n (pc := 53) (k := 3) (v := Int32.ofInt x1) (by decide +kernel) (by exact e7) ?_
        refine ev_r_aload_n (pc := 54) (k := 0) (v := .ref 269) trivial (by decide +kernel) (by exact e4) ?_
        refine ev_r_getC (pc := 55) (y := 37) (ci := 3) (f := 7) (fin := 1) (k' := 279) (by decide +kernel) (by decide +kernel) (by exact ev_ob_269) rfl rfl ?_
        refine ev_r_iload (pc := 58) (k := 4) (v := Int32.ofInt x2) (by decide +kernel) (by exact e8) ?_
        refine ev_r_iald (pc := 60) hx2 (by decide +kernel) (by exact ev_ab_279) ?_
        intro x23 hx23
        refine ev_r_iadd (pc := 61) (by decide +kernel) ?_
        intro x24 hx24
        refine ev_r_istore_n (pc := 62) (k := 3) (by decide +kernel) (by decide +kernel) rfl ?_
        refine ev_r_iinc (pc := 63) (k := 4) (c := 1) (x := x2) (by decide +kernel) (by decide +kernel) (by exact (ev_l1 e8 (by decide) (by decide))) (fun _ => rfl) ?_
        intro x25 hx25
        refine ev_r_goto (pc := 66) (o := (-61)) (t := 5) (by decide +kernel) (by decide +kernel) ?_
        exact hK5 x24 hx24 x25 hx25 s22 _ (by exact (ev_l1 (ev_l1 e4 (by decide) (by decide)) (by decide) (by decide))) (by exact (ev_l1 (ev_l1 e5 (by decide) (by decide)) (by decide) (by decide))) (by exact (ev_l1 (ev_lk_st1 e6 (by decide) rfl) (by decide) (by decide))) (by exact (ev_lk_st1 ev_lk_st1_self (by decide) rfl)) (by exact ev_lk_st1_self)
theorem jlt_47_5 (d : Nat) (hd : 5 ≤ d + 1) (Q : Nat) (a0 : Nat) (a1 : Int) (ha0 : a0 = 0 ∨ ev_isOb (a0 - 1) 0 = true) (ha1 : ev_rng a1)   : ∀ q : Nat, ∀ (x1 : Int) (hx1 : ev_rng x1), ∀ (x2 : Int) (hx2 : ev_rng x2), ∀ (s9 : ev_St) (w3 : List (Nat × Value)), ev_lk w3 0 = some (.ref 269) → ev_lk w3 1 = some (ev_nv a0) → ev_lk w3 2 = some (.int (Int32.ofInt a1)) → ev_lk w3 3 = some (.int (Int32.ofInt x1)) → ev_lk w3 4 = some (.int (Int32.ofInt x2)) → ev_w none (ev_Mof 47) d 5 w3 [] s9 (jl_47_5 Q a0 a1  q x1 x2 s9) ev_eU ev_PU := by
  intro q
  induction q with
  | zero =>
    intro x1 hx1 x2 hx2 s9 w3 e4 e5 e6 e7 e8
    exact ev_w_none
  | succ q ih => exact jbt_47_5 d hd Q a0 a1 ha0 ha1   _ ih
/-- MendBench$Mender.commit(LMendBench$Buffers;I)V -/
def jm_47 (Q : Nat) (a0 : Nat) (a1 : Int) (S : ev_St) : Option ((Unit) × ev_St) := jl_47_5 Q a0 a1  Q 0 0 S
theorem jt_47 (d : Nat) (hd : 5 ≤ d) (Q : Nat) (a0 : Nat) (a1 : Int) (ha0 : a0 = 0 ∨ ev_isOb (a0 - 1) 0 = true) (ha1 : ev_rng a1) (S : ev_St) (x : Unit) (S' : ev_St) (hJ : jm_47 Q a0 a1 S = some (x, S')) : ev_Ref d 47 [.ref 269, ev_nv a0, .int (Int32.ofInt a1)] S (ev_eU x) S' (ev_PU x) := by
  obtain ⟨d, rfl⟩ : ∃ e, d = e + 1 := ⟨d - 1, by omega⟩
  refine ev_ref_of (P := ev_PU) (lv := [(0, .ref 269), (1, ev_nv a0), (2, .int (Int32.ofInt a1))]) (by decide +kernel) (by (try simp only [ev_sum, ev_nv_cat]); first | done | rfl) (by (try simp only [lv_args, ev_nv_cat]); first | done | rfl) ?_ x S' hJ
  unfold jm_47
  refine ev_r_iconst (pc := 0) (k := 0) (by decide +kernel) ?_
  refine ev_r_istore_n (pc := 1) (k := 3) (by decide +kernel) (by decide +kernel) rfl ?_
  refine ev_r_iconst (pc := 2) (k := 0) (by decide +kernel) ?_
  refine ev_r_istore (pc := 3) (k := 4) (by decide +kernel) (by decide +kernel) rfl ?_
  exact jlt_47_5 d hd Q a0 a1 ha0 ha1   Q 0 (by decide) 0 (by decide) S _ (by exact (ev_l1 (ev_l1 (by rfl) (by decide) (by decide)) (by decide) (by decide))) (by exact (ev_l1 (ev_l1 (by rfl) (by decide) (by decide)) (by decide) (by decide))) (by exact (ev_l1 (ev_lk_st1 (by rfl) (by decide) rfl) (by decide) (by decide))) (by exact (ev_lk_st1 ev_lk_st1_self (by decide) rfl)) (by exact ev_lk_st1_self)
def jb_48_6 (Q : Nat) (a0 : Nat)  (K6 : Int → Int → ev_St → Option ((Int) × ev_St)) (x1 : Int) (x2 : Int) (s7 : ev_St) : Option ((Int) × ev_St) := ev_if (a0 ≠ 0) (ev_b (s7.1 ((a0 - 1)) 1) fun x9 => if x9 ≤ x2 then (if x1 ≠ 0 then (some (0, s7)) else (some (1, s7))) else (ev_jn (fun (x14 : Int) (x13 : Int) (r12 : Nat) (s19 : ev_St) => ev_bd (jm_49 Q r12 x13 x14 s19) fun x21 s20 => ev_if (a0 ≠ 0) (ev_bd (jm_151 Q ((a0 - 1)) x2 s20) fun x24 s23 => if x21 < 1 then (some (0, s23)) else (ev_jn (fun  (s32 : ev_St) => ev_jn (fun (x33 : Int) (s38 : ev_St) => ev_ck (x2 + x21) fun x39 => K6 x33 x39 s38) fun K93 => if x24 ≠ 63 then (ev_jn (fun  (s45 : ev_St) => K93 0 s45) fun K77 => if x1 = 0 then (K77  s32) else (if x24 ≠ 125 then (if x24 ≠ 124 then (K93 x1 s32) else (K93 2 s32)) else (K77  s32))) else (K93 1 s32)) fun K55 => if x24 ≠ 124 then (K55  s23) else (if x1 ≠ 2 then (K55  s23) else (some (0, s23)))))) fun K25 => if x1 ≤ 0 then (K25 0 x2 a0 s7) else (K25 1 x2 a0 s7)))
def jl_48_6 (Q : Nat) (a0 : Nat)  : Nat → Int → Int → ev_St → Option ((Int) × ev_St)
  | 0 => fun _ _ _ => none
  | q + 1 => jb_48_6 Q a0  (jl_48_6 Q a0  q)
theorem jbt_48_6 (d : Nat) (hd : 3 ≤ d + 1) (Q : Nat) (a0 : Nat) (ha0 : a0 = 0 ∨ ev_isOb (a0 - 1) 10 = true)   (K6 : Int → Int → ev_St → Option ((Int) × ev_St)) (hK6 : ∀ (x1 : Int) (hx1 : ev_rng x1), ∀ (x2 : Int) (hx2 : ev_rng x2), ∀ (s7 : ev_St) (w3 : List (Nat × Value)), ev_lk w3 0 = some (ev_nv a0) → ev_lk w3 1 = some (.int (Int32.ofInt x1)) → ev_lk w3 3 = some (.int (Int32.ofInt x2)) → ev_w none (ev_Mof 48) d 6 w3 [] s7 (K6 x1 x2 s7) ev_eI ev_bl) : ∀ (x1 : Int) (hx1 : ev_rng x1), ∀ (x2 : Int) (hx2 : ev_rng x2), ∀ (s7 : ev_St) (w3 : List (Nat × Value)), ev_lk w3 0 = some (ev_nv a0) → ev_lk w3 1 = some (.int (Int32.ofInt x1)) → ev_lk w3 3 = some (.int (Int32.ofInt x2)) → ev_w none (ev_Mof 48) d 6 w3 [] s7 (jb_48_6 Q a0  K6 x1 x2 s7) ev_eI ev_bl := by
  intro x1 hx1 x2 hx2 s7 w3 e4 e5 e6
  unfold jb_48_6
  refine ev_r_iload_n (pc := 6) (k := 3) (v := Int32.ofInt x2) (by decide +kernel) (by exact e6) ?_
  refine ev_r_aload_n (pc := 7) (k := 0) (v := ev_nv a0) (ev_isR_nv _) (by decide +kernel) (by exact e4) ?_
  refine ev_r_chk ?_
  intro c8
  refine ev_r_dr (r := a0) (fun v => [v, .int (Int32.ofInt x2)]) c8 ?_
  refine ev_r_getI (pc := 8) (y := 54) (ci := 10) (f := 1) (fin := 0) (by decide +kernel) (by decide +kernel) (by exact (ha0.resolve_left c8)) rfl ?_
  intro x9 hx9
  refine ev_r_icmp (pc := 11) (q := .ge) (o := 90) (t := 101) (c := x9 ≤ x2) (by decide +kernel) (ev_k_ge hx2 hx9) (by decide +kernel) ?_ ?_
  · intro c10
    refine ev_r_iload_n (pc := 101) (k := 1) (v := Int32.ofInt x1) (by decide +kernel) (by exact e5) ?_
    refine ev_r_if (pc := 102) (q := .ne) (o := 7) (t := 109) (c := x1 ≠ 0) (by decide +kernel) (ev_k_ne hx1 ev_rng0) (by decide +kernel) ?_ ?_
    · intro c11
      refine ev_r_iconst (pc := 109) (k := 0) (by decide +kernel) ?_
      exact ev_r_ireturn (pc := 110) (x := 0) (v := Int32.ofInt 0) (ty := .boolean) (by decide : ev_bl 0) (by decide +kernel) (by decide +kernel) (ev_ret_bl (by decide : ev_bl 0)) rfl
    · intro c11
      refine ev_r_iconst (pc := 105) (k := 1) (by decide +kernel) ?_
      refine ev_r_goto (pc := 106) (o := 4) (t := 110) (by decide +kernel) (by decide +kernel) ?_
      exact ev_r_ireturn (pc := 110) (x := 1) (v := Int32.ofInt 1) (ty := .boolean) (by decide : ev_bl 1) (by decide +kernel) (by decide +kernel) (ev_ret_bl (by decide : ev_bl 1)) rfl
  · intro c10
    refine ev_r_aload_n (pc := 14) (k := 0) (v := ev_nv a0) (ev_isR_nv _) (by decide +kernel) (by exact e4) ?_
    refine ev_r_iload_n (pc := 15) (k := 3) (v := Int32.ofInt x2) (by decide +kernel) (by exact e6) ?_
    refine ev_r_iload_n (pc := 16) (k := 1) (v := Int32.ofInt x1) (by decide +kernel) (by exact e5) ?_
    refine ev_r_jn (Q := fun K => ∀ (x14 : Int) (hx14 : ev_rng x14), ∀ (x13 : Int) (hx13 : ev_rng x13), ∀ (r12 : Nat) (hr12 : r12 = 0 ∨ ev_isOb (r12 - 1) 10 = true), ∀ (s19 : ev_St) (w15 : List (Nat × Value)), ev_lk w15 0 = some (ev_nv a0) → ev_lk w15 1 = some (.int (Int32.ofInt x1)) → ev_lk w15 3 = some (.int (Int32.ofInt x2)) → ev_w none (ev_Mof 48) d 25 w15 [.int (Int32.ofInt x14), .int (Int32.ofInt x13), ev_nv r12] s19 (K x14 x13 r12 s19) ev_eI ev_bl) ?_ ?_
    · intro x14 hx14 x13 hx13 r12 hr12 s19 w15 e16 e17 e18
      refine ev_r_stat (pc := 25) (y := 105) (kind := 2) (mi := 49) (na := 3) (as := [ev_nv r12, .int (Int32.ofInt x13), .int (Int32.ofInt x14)]) (rest := []) (encc := ev_oI) (Q := ev_rng) (fun x S1 h => jt_49 d (by omega) Q r12 x13 x14 (by exact hr12) hx13 hx14 s19 x S1 h) (Or.inl rfl) (by decide +kernel) (by decide +kernel) (by decide +kernel) (by decide +kernel) rfl (by (try simp only [ev_sum, ev_nv_cat]); first | done | rfl) ?_
      intro x21 s20 hx21
      show ev_w _ _ _ _ _ [.int (Int32.ofInt x21)] _ _ _ _
      refine ev_r_istore_n (pc := 28) (k := 2) (by decide +kernel) (by decide +kernel) rfl ?_
      refine ev_r_aload_n (pc := 29) (k := 0) (v := ev_nv a0) (ev_isR_nv _) (by decide +kernel) (by exact (ev_l1 e16 (by decide) (by decide))) ?_
      refine ev_r_iload_n (pc := 30) (k := 3) (v := Int32.ofInt x2) (by decide +kernel) (by exact (ev_l1 e18 (by decide) (by decide))) ?_
      refine ev_r_chk ?_
      intro c22
      refine ev_r_dr (r := a0) (fun v => [.int (Int32.ofInt x2), v]) c22 ?_
      refine ev_r_virt (pc := 31) (y := 109) (mi := 151) (na := 1) (k := (a0 - 1)) (as := [.int (Int32.ofInt x2)]) (rest := []) (encc := ev_oI) (Q := ev_rng) (fun x S1 h => jt_151 d (by omega) Q ((a0 - 1)) x2 (ha0.resolve_left c22) hx2 s20 x S1 h) (by exact (ha0.resolve_left c22)) (by decide +kernel) (by decide +kernel) (by decide +kernel) (by decide +kernel) rfl (by (try simp only [ev_sum, ev_nv_cat]); first | done | rfl) ?_
      intro x24 s23 hx24
      show ev_w _ _ _ _ _ [.int (Int32.ofInt x24)] _ _ _ _
      refine ev_r_istore (pc := 34) (k := 4) (by decide +kernel) (by decide +kernel) rfl ?_
      refine ev_r_iload_n (pc := 36) (k := 2) (v := Int32.ofInt x21) (by decide +kernel) (by exact (ev_l1 ev_lk_st1_self (by decide) (by decide))) ?_
      refine ev_r_iconst (pc := 37) (k := 1) (by decide +kernel) ?_
      refine ev_r_icmp (pc := 38) (q := .lt) (o := 15) (t := 53) (c := x21 < 1) (by decide +kernel) (ev_k_lt hx21 (by decide)) (by decide +kernel) ?_ ?_
      · intro c25
        refine ev_r_iconst (pc := 53) (k := 0) (by decide +kernel) ?_
        exact ev_r_ireturn (pc := 54) (x := 0) (v := Int32.ofInt 0) (ty := .boolean) (by decide : ev_bl 0) (by decide +kernel) (by decide +kernel) (ev_ret_bl (by decide : ev_bl 0)) rfl
      · intro c25
        refine ev_r_iload (pc := 41) (k := 4) (v := Int32.ofInt x24) (by decide +kernel) (by exact ev_lk_st1_self) ?_
        refine ev_r_bipush (pc := 43) (k := 124) (by decide +kernel) (by decide +kernel) ?_
        refine ev_r_jn (Q := fun K => ∀ (s32 : ev_St) (w26 : List (Nat × Value)), ev_lk w26 0 = some (ev_nv a0) → ev_lk w26 1 = some (.int (Int32.ofInt x1)) → ev_lk w26 2 = some (.int (Int32.ofInt x21)) → ev_lk w26 3 = some (.int (Int32.ofInt x2)) → ev_lk w26 4 = some (.int (Int32.ofInt x24)) → ev_w none (ev_Mof 48) d 55 w26 [] s32 (K  s32) ev_eI ev_bl) ?_ ?_
        · intro  s32 w26 e27 e28 e29 e30 e31
          refine ev_r_iload (pc := 55) (k := 4) (v := Int32.ofInt x24) (by decide +kernel) (by exact e31) ?_
          refine ev_r_bipush (pc := 57) (k := 63) (by decide +kernel) (by decide +kernel) ?_
          refine ev_r_jn (Q := fun K => ∀ (x33 : Int) (hx33 : ev_rng x33), ∀ (s38 : ev_St) (w34 : List (Nat × Value)), ev_lk w34 0 = some (ev_nv a0) → ev_lk w34 2 = some (.int (Int32.ofInt x21)) → ev_lk w34 3 = some (.int (Int32.ofInt x2)) → ev_w none (ev_Mof 48) d 93 w34 [.int (Int32.ofInt x33)] s38 (K x33 s38) ev_eI ev_bl) ?_ ?_
          · intro x33 hx33 s38 w34 e35 e36 e37
            refine ev_r_istore_n (pc := 93) (k := 1) (by decide +kernel) (by decide +kernel) rfl ?_
            refine ev_r_iload_n (pc := 94) (k := 3) (v := Int32.ofInt x2) (by decide +kernel) (by exact (ev_l1 e37 (by decide) (by decide))) ?_
            refine ev_r_iload_n (pc := 95) (k := 2) (v := Int32.ofInt x21) (by decide +kernel) (by exact (ev_l1 e36 (by decide) (by decide))) ?_
            refine ev_r_iadd (pc := 96) (by decide +kernel) ?_
            intro x39 hx39
            refine ev_r_istore_n (pc := 97) (k := 3) (by decide +kernel) (by decide +kernel) rfl ?_
            refine ev_r_goto (pc := 98) (o := (-92)) (t := 6) (by decide +kernel) (by decide +kernel) ?_
            exact hK6 x33 hx33 x39 hx39 s38 _ (by exact (ev_l1 (ev_lk_st1 e35 (by decide) (ev_nv_cat _)) (by decide) (by decide))) (by exact (ev_l1 ev_lk_st1_self (by decide) (by decide))) (by exact ev_lk_st1_self)
          · intro K93 hK93
            refine ev_r_icmp (pc := 59) (q := .ne) (o := 7) (t := 66) (c := x24 ≠ 63) (by decide +kernel) (ev_k_ne hx24 (by decide)) (by decide +kernel) ?_ ?_
            · intro c40
              refine ev_r_iload_n (pc := 66) (k := 1) (v := Int32.ofInt x1) (by decide +kernel) (by exact e28) ?_
              refine ev_r_jn (Q := fun K => ∀ (s45 : ev_St) (w41 : List (Nat × Value)), ev_lk w41 0 = some (ev_nv a0) → ev_lk w41 2 = some (.int (Int32.ofInt x21)) → ev_lk w41 3 = some (.int (Int32.ofInt x2)) → ev_w none (ev_Mof 48) d 77 w41 [] s45 (K  s45) ev_eI ev_bl) ?_ ?_
              · intro  s45 w41 e42 e43 e44
                refine ev_r_iconst (pc := 77) (k := 0) (by decide +kernel) ?_
                refine ev_r_goto (pc := 78) (o := 15) (t := 93) (by decide +kernel) (by decide +kernel) ?_
                exact hK93 0 (by decide) s45 _ (by exact e42) (by exact e43) (by exact e44)
              · intro K77 hK77
                refine ev_r_if (pc := 67) (q := .eq) (o := 10) (t := 77) (c := x1 = 0) (by decide +kernel) (ev_k_eq hx1 ev_rng0) (by decide +kernel) ?_ ?_
                · intro c46
                  exact hK77  s32 _ (by exact e27) (by exact e29) (by exact e30)
                · intro c46
                  refine ev_r_iload (pc := 70) (k := 4) (v := Int32.ofInt x24) (by decide +kernel) (by exact e31) ?_
                  refine ev_r_bipush (pc := 72) (k := 125) (by decide +kernel) (by decide +kernel) ?_
                  refine ev_r_icmp (pc := 74) (q := .ne) (o := 7) (t := 81) (c := x24 ≠ 125) (by decide +kernel) (ev_k_ne hx24 (by decide)) (by decide +kernel) ?_ ?_
                  · intro c47
                    refine ev_r_iload (pc := 81) (k := 4) (v := Int32.ofInt x24) (by decide +kernel) (by exact e31) ?_
                    refine ev_r_bipush (pc := 83) (k := 124) (by decide +kernel) (by decide +kernel) ?_
                    refine ev_r_icmp (pc := 85) (q := .ne) (o := 7) (t := 92) (c := x24 ≠ 124) (by decide +kernel) (ev_k_ne hx24 (by decide)) (by decide +kernel) ?_ ?_
                    · intro c48
                      refine ev_r_iload_n (pc := 92) (k := 1) (v := Int32.ofInt x1) (by decide +kernel) (by exact e28) ?_
                      exact hK93 x1 hx1 s32 _ (by exact e27) (by exact e29) (by exact e30)
                    · intro c48
                      refine ev_r_iconst (pc := 88) (k := 2) (by decide +kernel) ?_
                      refine ev_r_goto (pc := 89) (o := 4) (t := 93) (by decide +kernel) (by decide +kernel) ?_
                      exact hK93 2 (by decide) s32 _ (by exact e27) (by exact e29) (by exact e30)
                  · intro c47
                    exact hK77  s32 _ (by exact e27) (by exact e29) (by exact e30)
            · intro c40
              refine ev_r_iconst (pc := 62) (k := 1) (by decide +kernel) ?_
              refine ev_r_goto (pc := 63) (o := 30) (t := 93) (by decide +kernel) (by decide +kernel) ?_
              exact hK93 1 (by decide) s32 _ (by exact e27) (by exact e29) (by exact e30)
        · intro K55 hK55
          refine ev_r_icmp (pc := 45) (q := .ne) (o := 10) (t := 55) (c := x24 ≠ 124) (by decide +kernel) (ev_k_ne hx24 (by decide)) (by decide +kernel) ?_ ?_
          · intro c49
            exact hK55  s23 _ (by exact (ev_l1 (ev_l1 e16 (by decide) (by decide)) (by decide) (by decide))) (by exact (ev_l1 (ev_lk_st1 e17 (by decide) rfl) (by decide) (by decide))) (by exact (ev_l1 ev_lk_st1_self (by decide) (by decide))) (by exact (ev_lk_st1 (ev_l1 e18 (by decide) (by decide)) (by decide) rfl)) (by exact ev_lk_st1_self)
          · intro c49
            refine ev_r_iload_n (pc := 48) (k := 1) (v := Int32.ofInt x1) (by decide +kernel) (by exact (ev_l1 (ev_lk_st1 e17 (by decide) rfl) (by decide) (by decide))) ?_
            refine ev_r_iconst (pc := 49) (k := 2) (by decide +kernel) ?_
            refine ev_r_icmp (pc := 50) (q := .ne) (o := 5) (t := 55) (c := x1 ≠ 2) (by decide +kernel) (ev_k_ne hx1 (by decide)) (by decide +kernel) ?_ ?_
            · intro c50
              exact hK55  s23 _ (by exact (ev_l1 (ev_l1 e16 (by decide) (by decide)) (by decide) (by decide))) (by exact (ev_l1 (ev_lk_st1 e17 (by decide) rfl) (by decide) (by decide))) (by exact (ev_l1 ev_lk_st1_self (by decide) (by decide))) (by exact (ev_lk_st1 (ev_l1 e18 (by decide) (by decide)) (by decide) rfl)) (by exact ev_lk_st1_self)
            · intro c50
              refine ev_r_iconst (pc := 53) (k := 0) (by decide +kernel) ?_
              exact ev_r_ireturn (pc := 54) (x := 0) (v := Int32.ofInt 0) (ty := .boolean) (by decide : ev_bl 0) (by decide +kernel) (by decide +kernel) (ev_ret_bl (by decide : ev_bl 0)) rfl
    · intro K25 hK25
      refine ev_r_if (pc := 17) (q := .le) (o := 7) (t := 24) (c := x1 ≤ 0) (by decide +kernel) (ev_k_le hx1 ev_rng0) (by decide +kernel) ?_ ?_
      · intro c51
        refine ev_r_iconst (pc := 24) (k := 0) (by decide +kernel) ?_
        exact hK25 0 (by decide) x2 hx2 a0 ha0 s7 _ (by exact e4) (by exact e5) (by exact e6)
      · intro c51
        refine ev_r_iconst (pc := 20) (k := 1) (by decide +kernel) ?_
        refine ev_r_goto (pc := 21) (o := 4) (t := 25) (by decide +kernel) (by decide +kernel) ?_
        exact hK25 1 (by decide) x2 hx2 a0 ha0 s7 _ (by exact e4) (by exact e5) (by exact e6)
theorem jlt_48_6 (d : Nat) (hd : 3 ≤ d + 1) (Q : Nat) (a0 : Nat) (ha0 : a0 = 0 ∨ ev_isOb (a0 - 1) 10 = true)   : ∀ q : Nat, ∀ (x1 : Int) (hx1 : ev_rng x1), ∀ (x2 : Int) (hx2 : ev_rng x2), ∀ (s7 : ev_St) (w3 : List (Nat × Value)), ev_lk w3 0 = some (ev_nv a0) → ev_lk w3 1 = some (.int (Int32.ofInt x1)) → ev_lk w3 3 = some (.int (Int32.ofInt x2)) → ev_w none (ev_Mof 48) d 6 w3 [] s7 (jl_48_6 Q a0  q x1 x2 s7) ev_eI ev_bl := by
  intro q
  induction q with
  | zero =>
    intro x1 hx1 x2 hx2 s7 w3 e4 e5 e6
    exact ev_w_none
  | succ q ih => exact jbt_48_6 d hd Q a0 ha0   _ ih
/-- MendBench$Mender.isTemplate(LMendBench$Text;)Z -/
def jm_48 (Q : Nat) (a0 : Nat) (S : ev_St) : Option ((Int) × ev_St) := jl_48_6 Q a0  Q 0 0 S
theorem jt_48 (d : Nat) (hd : 3 ≤ d) (Q : Nat) (a0 : Nat) (ha0 : a0 = 0 ∨ ev_isOb (a0 - 1) 10 = true) (S : ev_St) (x : Int) (S' : ev_St) (hJ : jm_48 Q a0 S = some (x, S')) : ev_Ref d 48 [ev_nv a0] S (ev_eI x) S' (ev_bl x) := by
  obtain ⟨d, rfl⟩ : ∃ e, d = e + 1 := ⟨d - 1, by omega⟩
  refine ev_ref_of (P := ev_bl) (lv := [(0, ev_nv a0)]) (by decide +kernel) (by (try simp only [ev_sum, ev_nv_cat]); first | done | rfl) (by (try simp only [lv_args, ev_nv_cat]); first | done | rfl) ?_ x S' hJ
  unfold jm_48
  refine ev_r_iconst (pc := 0) (k := 0) (by decide +kernel) ?_
  refine ev_r_istore_n (pc := 1) (k := 1) (by decide +kernel) (by decide +kernel) rfl ?_
  refine ev_r_iconst (pc := 2) (k := 1) (by decide +kernel) ?_
  refine ev_r_istore_n (pc := 3) (k := 2) (by decide +kernel) (by decide +kernel) rfl ?_
  refine ev_r_iconst (pc := 4) (k := 0) (by decide +kernel) ?_
  refine ev_r_istore_n (pc := 5) (k := 3) (by decide +kernel) (by decide +kernel) rfl ?_
  exact jlt_48_6 d hd Q a0 ha0   Q 0 (by decide) 0 (by decide) S _ (by exact (ev_l1 (ev_l1 (ev_lk_st1 (by rfl) (by decide) (ev_nv_cat _)) (by decide) (by decide)) (by decide) (by decide))) (by exact (ev_l1 (ev_lk_st1 ev_lk_st1_self (by decide) rfl) (by decide) (by decide))) (by exact ev_lk_st1_self)
def jb_363_5 (Q : Nat) (a0 : Nat) (a1 : Int)  (K5 : Int → Int → ev_St → Option ((Unit) × ev_St)) (x3 : Int) (x4 : Int) (s10 : ev_St) : Option ((Unit) × ev_St) := if x4 ≤ x3 then (some ((), s10)) else (ev_if (a0 ≠ 0) (ev_if ((0 : Int) ≤ x3 ∧ x3 < (ev_aln ((a0 - 1)) : Int)) (ev_b (ev_pI s10 ((a0 - 1)) (Int.toNat x3) a1) fun s13 => ev_ck (x3 + 1) fun x14 => K5 x14 x4 s13)))
def jl_363_5 (Q : Nat) (a0 : Nat) (a1 : Int)  : Nat → Int → Int → ev_St → Option ((Unit) × ev_St)
  | 0 => fun _ _ _ => none
  | q + 1 => jb_363_5 Q a0 a1  (jl_363_5 Q a0 a1  q)
theorem jbt_363_5 (d : Nat) (hd : 1 ≤ d + 1) (Q : Nat) (a0 : Nat) (a1 : Int) (ha0 : a0 = 0 ∨ ev_isAb (a0 - 1) 1 .int = true) (ha1 : ev_rng a1)   (K5 : Int → Int → ev_St → Option ((Unit) × ev_St)) (hK5 : ∀ (x3 : Int) (hx3 : ev_rng x3), ∀ (x4 : Int) (hx4 : ev_rng x4), ∀ (s10 : ev_St) (w5 : List (Nat × Value)), ev_lk w5 0 = some (ev_nv a0) → ev_lk w5 1 = some (.int (Int32.ofInt a1)) → ev_lk w5 2 = some (.int (Int32.ofInt x3)) → ev_lk w5 3 = some (.int (Int32.ofInt x4)) → ev_w none (ev_Mof 363) d 5 w5 [] s10 (K5 x3 x4 s10) ev_eU ev_PU) : ∀ (x3 : Int) (hx3 : ev_rng x3), ∀ (x4 : Int) (hx4 : ev_rng x4), ∀ (s10 : ev_St) (w5 : List (Nat × Value)), ev_lk w5 0 = some (ev_nv a0) → ev_lk w5 1 = some (.int (Int32.ofInt a1)) → ev_lk w5 2 = some (.int (Int32.ofInt x3)) → ev_lk w5 3 = some (.int (Int32.ofInt x4)) → ev_w none (ev_Mof 363) d 5 w5 [] s10 (jb_363_5 Q a0 a1  K5 x3 x4 s10) ev_eU ev_PU := by
  intro x3 hx3 x4 hx4 s10 w5 e6 e7 e8 e9
  unfold jb_363_5
  refine ev_r_iload_n (pc := 5) (k := 2) (v := Int32.ofInt x3) (by decide +kernel) (by exact e8) ?_
  refine ev_r_iload_n (pc := 6) (k := 3) (v := Int32.ofInt x4) (by decide +kernel) (by exact e9) ?_
  refine ev_r_icmp (pc := 7) (q := .ge) (o := 13) (t := 20) (c := x4 ≤ x3) (by decide +kernel) (ev_k_ge hx3 hx4) (by decide +kernel) ?_ ?_
  · intro c11
    exact ev_r_return (pc := 20) (x := ()) trivial (by decide +kernel) (by decide +kernel) rfl
  · intro c11
    refine ev_r_aload_n (pc := 10) (k := 0) (v := ev_nv a0) (ev_isR_nv _) (by decide +kernel) (by exact e6) ?_
    refine ev_r_iload_n (pc := 11) (k := 2) (v := Int32.ofInt x3) (by decide +kernel) (by exact e8) ?_
    refine ev_r_iload_n (pc := 12) (k := 1) (v := Int32.ofInt a1) (by decide +kernel) (by exact e7) ?_
    refine ev_r_chk ?_
    intro c12
    refine ev_r_dr (r := a0) (fun v => [.int (Int32.ofInt a1), .int (Int32.ofInt x3), v]) c12 ?_
    refine ev_r_iast (pc := 13) ha1 hx3 (by decide +kernel) (by exact (ha0.resolve_left c12)) ?_
    intro s13
    refine ev_r_iinc (pc := 14) (k := 2) (c := 1) (x := x3) (by decide +kernel) (by decide +kernel) (by exact e8) (fun _ => rfl) ?_
    intro x14 hx14
    refine ev_r_goto (pc := 17) (o := (-12)) (t := 5) (by decide +kernel) (by decide +kernel) ?_
    exact hK5 x14 hx14 x4 hx4 s13 _ (by exact (ev_l1 e6 (by decide) (by decide))) (by exact (ev_lk_st1 e7 (by decide) rfl)) (by exact ev_lk_st1_self) (by exact (ev_l1 e9 (by decide) (by decide)))
theorem jlt_363_5 (d : Nat) (hd : 1 ≤ d + 1) (Q : Nat) (a0 : Nat) (a1 : Int) (ha0 : a0 = 0 ∨ ev_isAb (a0 - 1) 1 .int = true) (ha1 : ev_rng a1)   : ∀ q : Nat, ∀ (x3 : Int) (hx3 : ev_rng x3), ∀ (x4 : Int) (hx4 : ev_rng x4), ∀ (s10 : ev_St) (w5 : List (Nat × Value)), ev_lk w5 0 = some (ev_nv a0) → ev_lk w5 1 = some (.int (Int32.ofInt a1)) → ev_lk w5 2 = some (.int (Int32.ofInt x3)) → ev_lk w5 3 = some (.int (Int32.ofInt x4)) → ev_w none (ev_Mof 363) d 5 w5 [] s10 (jl_363_5 Q a0 a1  q x3 x4 s10) ev_eU ev_PU := by
  intro q
  induction q with
  | zero =>
    intro x3 hx3 x4 hx4 s10 w5 e6 e7 e8 e9
    exact ev_w_none
  | succ q ih => exact jbt_363_5 d hd Q a0 a1 ha0 ha1   _ ih
/-- java/util/Arrays.fill([II)V -/
def jm_363 (Q : Nat) (a0 : Nat) (a1 : Int) (S : ev_St) : Option ((Unit) × ev_St) := ev_if (a0 ≠ 0) (ev_b (ev_aln ((a0 - 1)) : Int) fun x2 => jl_363_5 Q a0 a1  Q 0 x2 S)
theorem jt_363 (d : Nat) (hd : 1 ≤ d) (Q : Nat) (a0 : Nat) (a1 : Int) (ha0 : a0 = 0 ∨ ev_isAb (a0 - 1) 1 .int = true) (ha1 : ev_rng a1) (S : ev_St) (x : Unit) (S' : ev_St) (hJ : jm_363 Q a0 a1 S = some (x, S')) : ev_Ref d 363 [ev_nv a0, .int (Int32.ofInt a1)] S (ev_eU x) S' (ev_PU x) := by
  obtain ⟨d, rfl⟩ : ∃ e, d = e + 1 := ⟨d - 1, by omega⟩
  refine ev_ref_of (P := ev_PU) (lv := [(0, ev_nv a0), (1, .int (Int32.ofInt a1))]) (by decide +kernel) (by (try simp only [ev_sum, ev_nv_cat]); first | done | rfl) (by (try simp only [lv_args, ev_nv_cat]); first | done | rfl) ?_ x S' hJ
  unfold jm_363
  refine ev_r_iconst (pc := 0) (k := 0) (by decide +kernel) ?_
  refine ev_r_istore_n (pc := 1) (k := 2) (by decide +kernel) (by decide +kernel) rfl ?_
  refine ev_r_aload_n (pc := 2) (k := 0) (v := ev_nv a0) (ev_isR_nv _) (by decide +kernel) (by exact (ev_l1 (by rfl) (by decide) (by decide))) ?_
  refine ev_r_chk ?_
  intro c1
  refine ev_r_dr (r := a0) (fun v => [v]) c1 ?_
  refine ev_r_alen (pc := 3) (kd := 1) (ty := .int) (Or.inl rfl) (by decide +kernel) (by exact (ha0.resolve_left c1)) ?_
  intro x2 hx2
  refine ev_r_istore_n (pc := 4) (k := 3) (by decide +kernel) (by decide +kernel) rfl ?_
  exact jlt_363_5 d hd Q a0 a1 ha0 ha1   Q 0 (by decide) x2 hx2 S _ (by exact (ev_l1 (ev_l1 (by rfl) (by decide) (by decide)) (by decide) (by decide))) (by exact (ev_l1 (ev_lk_st1 (by rfl) (by decide) rfl) (by decide) (by decide))) (by exact (ev_lk_st1 ev_lk_st1_self (by decide) rfl)) (by exact ev_lk_st1_self)
/-- MendBench$Pattern.restart()V -/
def jm_57 (Q : Nat) (k : Nat) (S : ev_St) : Option ((Unit) × ev_St) := ev_b (ev_pI S k 11 0) fun s1 => ev_b (ev_pI s1 k 12 0) fun s2 => ev_bd (jm_363 Q (((k + 11) + 1)) 0 s2) fun _ s3 => some ((), s3)
theorem jt_57 (d : Nat) (hd : 2 ≤ d) (Q : Nat) (k : Nat) (hk : ev_isOb k 5 = true) (S : ev_St) (x : Unit) (S' : ev_St) (hJ : jm_57 Q k S = some (x, S')) : ev_Ref d 57 [.ref k] S (ev_eU x) S' (ev_PU x) := by
  obtain ⟨d, rfl⟩ : ∃ e, d = e + 1 := ⟨d - 1, by omega⟩
  refine ev_ref_of (P := ev_PU) (lv := [(0, .ref k)]) (by decide +kernel) (by (try simp only [ev_sum, ev_nv_cat]); first | done | rfl) (by (try simp only [lv_args, ev_nv_cat]); first | done | rfl) ?_ x S' hJ
  unfold jm_57
  refine ev_r_aload_n (pc := 0) (k := 0) (v := .ref k) trivial (by decide +kernel) (by rfl) ?_
  refine ev_r_iconst (pc := 1) (k := 0) (by decide +kernel) ?_
  refine ev_r_putI (pc := 2) (y := 60) (ci := 5) (f := 11) (by decide) (by decide +kernel) (by decide +kernel) (by exact hk) rfl rfl ?_
  intro s1
  refine ev_r_aload_n (pc := 5) (k := 0) (v := .ref k) trivial (by decide +kernel) (by rfl) ?_
  refine ev_r_iconst (pc := 6) (k := 0) (by decide +kernel) ?_
  refine ev_r_putI (pc := 7) (y := 64) (ci := 5) (f := 12) (by decide) (by decide +kernel) (by decide +kernel) (by exact hk) rfl rfl ?_
  intro s2
  refine ev_r_aload_n (pc := 10) (k := 0) (v := .ref k) trivial (by decide +kernel) (by rfl) ?_
  refine ev_r_getC (pc := 11) (y := 43) (ci := 5) (f := 10) (fin := 1) (k' := (k + 11)) (by decide +kernel) (by decide +kernel) (by exact hk) rfl rfl ?_
  refine ev_r_iconst (pc := 14) (k := 0) (by decide +kernel) ?_
  refine ev_r_stat (pc := 15) (y := 67) (kind := 2) (mi := 363) (na := 2) (as := [ev_nv (((k + 11) + 1)), .int (Int32.ofInt 0)]) (rest := []) (encc := ev_oU) (Q := ev_PU) (fun x S1 h => jt_363 d (by omega) Q (((k + 11) + 1)) 0 (by exact (Or.inr (ev_fo_5_10 hk))) (by decide) s2 x S1 h) (Or.inl rfl) (by decide +kernel) (by decide +kernel) (by decide +kernel) (by decide +kernel) rfl (by (try simp only [ev_sum, ev_nv_cat]); first | done | rfl) ?_
  intro _ s3 _
  show ev_w _ _ _ _ _ [] _ _ _ _
  exact ev_r_return (pc := 18) (x := ()) trivial (by decide +kernel) (by decide +kernel) rfl
/-- MendBench$Pattern.add(III)I -/
def jm_58 (Q : Nat) (k : Nat) (a0 : Int) (a1 : Int) (a2 : Int) (S : ev_St) : Option ((Int) × ev_St) := ev_b (S.1 k 11) fun x1 => if x1 < 0 then (some ((-1), S)) else (ev_b (S.1 k 11) fun x3 => if x3 < 400 then (ev_b (S.1 k 11) fun x5 => ev_if ((0 : Int) ≤ x5 ∧ x5 < (ev_aln ((k + 1)) : Int)) (ev_b (ev_pI S ((k + 1)) (Int.toNat x5) a0) fun s6 => ev_b (s6.1 k 11) fun x7 => ev_if ((0 : Int) ≤ x7 ∧ x7 < (ev_aln ((k + 2)) : Int)) (ev_b (ev_pI s6 ((k + 2)) (Int.toNat x7) a1) fun s8 => ev_b (s8.1 k 11) fun x9 => ev_if ((0 : Int) ≤ x9 ∧ x9 < (ev_aln ((k + 3)) : Int)) (ev_b (ev_pI s8 ((k + 3)) (Int.toNat x9) a2) fun s10 => ev_b (s10.1 k 11) fun x11 => ev_if ((0 : Int) ≤ x11 ∧ x11 < (ev_aln ((k + 4)) : Int)) (ev_b (ev_pI s10 ((k + 4)) (Int.toNat x11) ((-1))) fun s12 => ev_b (s12.1 k 11) fun x13 => ev_if ((0 : Int) ≤ x13 ∧ x13 < (ev_aln ((k + 5)) : Int)) (ev_b (ev_pI s12 ((k + 5)) (Int.toNat x13) ((-1))) fun s14 => ev_b (s14.1 k 11) fun x15 => ev_if ((0 : Int) ≤ x15 ∧ x15 < (ev_aln ((k + 6)) : Int)) (ev_b (ev_pI s14 ((k + 6)) (Int.toNat x15) ((-1))) fun s16 => ev_b (s16.1 k 11) fun x17 => ev_if ((0 : Int) ≤ x17 ∧ x17 < (ev_aln ((k + 7)) : Int)) (ev_b (ev_pI s16 ((k + 7)) (Int.toNat x17) ((-1))) fun s18 => ev_b (s18.1 k 11) fun x19 => ev_ck (x19 + 1) fun x20 => ev_b (ev_pI s18 k 11 x20) fun s21 => ev_b (s21.1 k 11) fun x22 => ev_ck (x22 - 1) fun x23 => some (x23, s21))))))))) else (some ((-1), S)))
theorem jt_58 (d : Nat) (hd : 1 ≤ d) (Q : Nat) (k : Nat) (a0 : Int) (a1 : Int) (a2 : Int) (hk : ev_isOb k 5 = true) (ha0 : ev_rng a0) (ha1 : ev_rng a1) (ha2 : ev_rng a2) (S : ev_St) (x : Int) (S' : ev_St) (hJ : jm_58 Q k a0 a1 a2 S = some (x, S')) : ev_Ref d 58 [.ref k, .int (Int32.ofInt a0), .int (Int32.ofInt a1), .int (Int32.ofInt a2)] S (ev_eI x) S' (ev_rng x) := by
  obtain ⟨d, rfl⟩ : ∃ e, d = e + 1 := ⟨d - 1, by omega⟩
  refine ev_ref_of (P := ev_rng) (lv := [(0, .ref k), (1, .int (Int32.ofInt a0)), (2, .int (Int32.ofInt a1)), (3, .int (Int32.ofInt a2))]) (by decide +kernel) (by (try simp only [ev_sum, ev_nv_cat]); first | done | rfl) (by (try simp only [lv_args, ev_nv_cat]); first | done | rfl) ?_ x S' hJ
  unfold jm_58
  refine ev_r_aload_n (pc := 0) (k := 0) (v := .ref k) trivial (by decide +kernel) (by rfl) ?_
  refine ev_r_getI (pc := 1) (y := 60) (ci := 5) (f := 11) (fin := 0) (by decide +kernel) (by decide +kernel) (by exact hk) rfl ?_
  intro x1 hx1
  refine ev_r_if (pc := 4) (q := .lt) (o := 13) (t := 17) (c := x1 < 0) (by decide +kernel) (ev_k_lt hx1 ev_rng0) (by decide +kernel) ?_ ?_
  · intro c2
    refine ev_r_iconst (pc := 17) (k := -1) (by decide +kernel) ?_
    exact ev_r_ireturn (pc := 18) (x := (-1)) (v := Int32.ofInt ((-1))) (ty := .int) (by decide) (by decide +kernel) (by decide +kernel) rfl rfl
  · intro c2
    refine ev_r_aload_n (pc := 7) (k := 0) (v := .ref k) trivial (by decide +kernel) (by rfl) ?_
    refine ev_r_getI (pc := 8) (y := 60) (ci := 5) (f := 11) (fin := 0) (by decide +kernel) (by decide +kernel) (by exact hk) rfl ?_
    intro x3 hx3
    refine ev_r_sipush (pc := 11) (k := 400) (by decide +kernel) (by decide +kernel) ?_
    refine ev_r_icmp (pc := 14) (q := .lt) (o := 5) (t := 19) (c := x3 < 400) (by decide +kernel) (ev_k_lt hx3 (by decide)) (by decide +kernel) ?_ ?_
    · intro c4
      refine ev_r_aload_n (pc := 19) (k := 0) (v := .ref k) trivial (by decide +kernel) (by rfl) ?_
      refine ev_r_getC (pc := 20) (y := 11) (ci := 5) (f := 0) (fin := 1) (k' := (k + 1)) (by decide +kernel) (by decide +kernel) (by exact hk) rfl rfl ?_
      refine ev_r_aload_n (pc := 23) (k := 0) (v := .ref k) trivial (by decide +kernel) (by rfl) ?_
      refine ev_r_getI (pc := 24) (y := 60) (ci := 5) (f := 11) (fin := 0) (by decide +kernel) (by decide +kernel) (by exact hk) rfl ?_
      intro x5 hx5
      refine ev_r_iload_n (pc := 27) (k := 1) (v := Int32.ofInt a0) (by decide +kernel) (by rfl) ?_
      refine ev_r_iast (pc := 28) ha0 hx5 (by decide +kernel) (by exact (ev_fo_5_0 hk)) ?_
      intro s6
      refine ev_r_aload_n (pc := 29) (k := 0) (v := .ref k) trivial (by decide +kernel) (by rfl) ?_
      refine ev_r_getC (pc := 30) (y := 15) (ci := 5) (f := 1) (fin := 1) (k' := (k + 2)) (by decide +kernel) (by decide +kernel) (by exact hk) rfl rfl ?_
      refine ev_r_aload_n (pc := 33) (k := 0) (v := .ref k) trivial (by decide +kernel) (by rfl) ?_
      refine ev_r_getI (pc := 34) (y := 60) (ci := 5) (f := 11) (fin := 0) (by decide +kernel) (by decide +kernel) (by exact hk) rfl ?_
      intro x7 hx7
      refine ev_r_iload_n (pc := 37) (k := 2) (v := Int32.ofInt a1) (by decide +kernel) (by rfl) ?_
      refine ev_r_iast (pc := 38) ha1 hx7 (by decide +kernel) (by exact (ev_fo_5_1 hk)) ?_
      intro s8
      refine ev_r_aload_n (pc := 39) (k := 0) (v := .ref k) trivial (by decide +kernel) (by rfl) ?_
      refine ev_r_getC (pc := 40) (y := 18) (ci := 5) (f := 2) (fin := 1) (k' := (k + 3)) (by decide +kernel) (by decide +kernel) (by exact hk) rfl rfl ?_
      refine ev_r_aload_n (pc := 43) (k := 0) (v := .ref k) trivial (by decide +kernel) (by rfl) ?_
      refine ev_r_getI (pc := 44) (y := 60) (ci := 5) (f := 11) (fin := 0) (by decide +kernel) (by decide +kernel) (by exact hk) rfl ?_
      intro x9 hx9
      refine ev_r_iload_n (pc := 47) (k := 3) (v := Int32.ofInt a2) (by decide +kernel) (by rfl) ?_
      refine ev_r_iast (pc := 48) ha2 hx9 (by decide +kernel) (by exact (ev_fo_5_2 hk)) ?_
      intro s10
      refine ev_r_aload_n (pc := 49) (k := 0) (v := .ref k) trivial (by decide +kernel) (by rfl) ?_
      refine ev_r_getC (pc := 50) (y := 21) (ci := 5) (f := 3) (fin := 1) (k' := (k + 4)) (by decide +kernel) (by decide +kernel) (by exact hk) rfl rfl ?_
      refine ev_r_aload_n (pc := 53) (k := 0) (v := .ref k) trivial (by decide +kernel) (by rfl) ?_
      refine ev_r_getI (pc := 54) (y := 60) (ci := 5) (f := 11) (fin := 0) (by decide +kernel) (by decide +kernel) (by exact hk) rfl ?_
      intro x11 hx11
      refine ev_r_iconst (pc := 57) (k := -1) (by decide +kernel) ?_
      refine ev_r_iast (pc := 58) (by decide) hx11 (by decide +kernel) (by exact (ev_fo_5_3 hk)) ?_
      intro s12
      refine ev_r_aload_n (pc := 59) (k := 0) (v := .ref k) trivial (by decide +kernel) (by rfl) ?_
      refine ev_r_getC (pc := 60) (y := 24) (ci := 5) (f := 4) (fin := 1) (k' := (k + 5)) (by decide +kernel) (by decide +kernel) (by exact hk) rfl rfl ?_
      refine ev_r_aload_n (pc := 63) (k := 0) (v := .ref k) trivial (by decide +kernel) (by rfl) ?_
      refine ev_r_getI (pc := 64) (y := 60) (ci := 5) (f := 11) (fin := 0) (by decide +kernel) (by decide +kernel) (by exact hk) rfl ?_
      intro x13 hx13
      refine ev_r_iconst (pc := 67) (k := -1) (by decide +kernel) ?_
      refine ev_r_iast (pc := 68) (by decide) hx13 (by decide +kernel) (by exact (ev_fo_5_4 hk)) ?_
      intro s14
      refine ev_r_aload_n (pc := 69) (k := 0) (v := .ref k) trivial (by decide +kernel) (by rfl) ?_
      refine ev_r_getC (pc := 70) (y := 27) (ci := 5) (f := 5) (fin := 1) (k' := (k + 6)) (by decide +kernel) (by decide +kernel) (by exact hk) rfl rfl ?_
      refine ev_r_aload_n (pc := 73) (k := 0) (v := .ref k) trivial (by decide +kernel) (by rfl) ?_
      refine ev_r_getI (pc := 74) (y := 60) (ci := 5) (f := 11) (fin := 0) (by decide +kernel) (by decide +kernel) (by exact hk) rfl ?_
      intro x15 hx15
      refine ev_r_iconst (pc := 77) (k := -1) (by decide +kernel) ?_
      refine ev_r_iast (pc := 78) (by decide) hx15 (by decide +kernel) (by exact (ev_fo_5_5 hk)) ?_
      intro s16
      refine ev_r_aload_n (pc := 79) (k := 0) (v := .ref k) trivial (by decide +kernel) (by rfl) ?_
      refine ev_r_getC (pc := 80) (y := 30) (ci := 5) (f := 6) (fin := 1) (k' := (k + 7)) (by decide +kernel) (by decide +kernel) (by exact hk) rfl rfl ?_
      refine ev_r_aload_n (pc := 83) (k := 0) (v := .ref k) trivial (by decide +kernel) (by rfl) ?_
      refine ev_r_getI (pc := 84) (y := 60) (ci := 5) (f := 11) (fin := 0) (by decide +kernel) (by decide +kernel) (by exact hk) rfl ?_
      intro x17 hx17
      refine ev_r_iconst (pc := 87) (k := -1) (by decide +kernel) ?_
      refine ev_r_iast (pc := 88) (by decide) hx17 (by decide +kernel) (by exact (ev_fo_5_6 hk)) ?_
      intro s18
      refine ev_r_aload_n (pc := 89) (k := 0) (v := .ref k) trivial (by decide +kernel) (by rfl) ?_
      refine ev_r_dup (pc := 90) rfl (by decide +kernel) ?_
      refine ev_r_getI (pc := 91) (y := 60) (ci := 5) (f := 11) (fin := 0) (by decide +kernel) (by decide +kernel) (by exact hk) rfl ?_
      intro x19 hx19
      refine ev_r_iconst (pc := 94) (k := 1) (by decide +kernel) ?_
      refine ev_r_iadd (pc := 95) (by decide +kernel) ?_
      intro x20 hx20
      refine ev_r_putI (pc := 96) (y := 60) (ci := 5) (f := 11) hx20 (by decide +kernel) (by decide +kernel) (by exact hk) rfl rfl ?_
      intro s21
      refine ev_r_aload_n (pc := 99) (k := 0) (v := .ref k) trivial (by decide +kernel) (by rfl) ?_
      refine ev_r_getI (pc := 100) (y := 60) (ci := 5) (f := 11) (fin := 0) (by decide +kernel) (by decide +kernel) (by exact hk) rfl ?_
      intro x22 hx22
      refine ev_r_iconst (pc := 103) (k := 1) (by decide +kernel) ?_
      refine ev_r_isub (pc := 104) (by decide +kernel) ?_
      intro x23 hx23
      exact ev_r_ireturn (pc := 105) (x := x23) (v := Int32.ofInt x23) (ty := .int) hx23 (by decide +kernel) (by decide +kernel) rfl rfl
    · intro c4
      refine ev_r_iconst (pc := 17) (k := -1) (by decide +kernel) ?_
      exact ev_r_ireturn (pc := 18) (x := (-1)) (v := Int32.ofInt ((-1))) (ty := .int) (by decide) (by decide +kernel) (by decide +kernel) rfl rfl
def jb_68_75 (Q : Nat) (k : Nat) (a0 : Int) (x4 : Int) (x5 : Int) (x6 : Int) (K16 : Int → Int → Int → ev_St → Option ((Unit) × ev_St)) (K75 : Int → Int → ev_St → Option ((Unit) × ev_St)) (x50 : Int) (x51 : Int) (s60 : ev_St) : Option ((Unit) × ev_St) := ev_jn (fun  (s67 : ev_St) => ev_if ((0 : Int) ≤ x5 ∧ x5 < (ev_aln ((k + 5)) : Int)) (ev_b (s67.1 ((k + 5)) (Int.toNat x5)) fun x68 => ev_ck (x6 + 1) fun x69 => K16 x4 x68 x69 s67)) fun K139 => if 400 ≤ x51 then (K139  s60) else (ev_bd (jm_59 Q k x50 s60) fun x72 s71 => if x72 = 0 then (K139  s71) else (ev_if ((0 : Int) ≤ x50 ∧ x50 < (ev_aln ((k + 5)) : Int)) (ev_b (s71.1 ((k + 5)) (Int.toNat x50)) fun x74 => ev_jn (fun (x77 : Int) (x76 : Int) (r75 : Nat) (s86 : ev_St) => ev_if ((0 : Int) ≤ x76 ∧ x76 < (ev_aln r75 : Int)) (ev_b (ev_pI s86 r75 (Int.toNat x76) x77) fun s87 => ev_if ((0 : Int) ≤ x50 ∧ x50 < (ev_aln ((k + 5)) : Int)) (ev_b (s87.1 ((k + 5)) (Int.toNat x50)) fun x88 => ev_ck (x51 + 1) fun x89 => K75 x88 x89 s87))) fun K123 => if 0 ≤ x74 then (ev_if ((0 : Int) ≤ x50 ∧ x50 < (ev_aln ((k + 5)) : Int)) (ev_b (s71.1 ((k + 5)) (Int.toNat x50)) fun x91 => ev_ck (4 * x91) fun x92 => ev_ck (x92 + 0) fun x93 => K123 x93 x50 ((k + 7)) s71)) else (K123 x4 x50 ((k + 7)) s71))))
def jl_68_75 (Q : Nat) (k : Nat) (a0 : Int) (x4 : Int) (x5 : Int) (x6 : Int) (K16 : Int → Int → Int → ev_St → Option ((Unit) × ev_St)) : Nat → Int → Int → ev_St → Option ((Unit) × ev_St)
  | 0 => fun _ _ _ => none
  | q + 1 => jb_68_75 Q k a0 x4 x5 x6 K16 (jl_68_75 Q k a0 x4 x5 x6 K16 q)
theorem jbt_68_75 (d : Nat) (hd : 2 ≤ d + 1) (Q : Nat) (k : Nat) (a0 : Int) (x4 : Int) (x5 : Int) (x6 : Int) (hk : ev_isOb k 5 = true) (ha0 : ev_rng a0) (hx4 : ev_rng x4) (hx5 : ev_rng x5) (hx6 : ev_rng x6) (K16 : Int → Int → Int → ev_St → Option ((Unit) × ev_St)) (hK16 : ∀ (x4 : Int) (hx4 : ev_rng x4), ∀ (x5 : Int) (hx5 : ev_rng x5), ∀ (x6 : Int) (hx6 : ev_rng x6), ∀ (s13 : ev_St) (w7 : List (Nat × Value)), ev_lk w7 0 = some (.ref k) → ev_lk w7 1 = some (.int (Int32.ofInt a0)) → ev_lk w7 2 = some (.int (Int32.ofInt x4)) → ev_lk w7 3 = some (.int (Int32.ofInt x5)) → ev_lk w7 4 = some (.int (Int32.ofInt x6)) → ev_w none (ev_Mof 68) d 16 w7 [] s13 (K16 x4 x5 x6 s13) ev_eU ev_PU) (K75 : Int → Int → ev_St → Option ((Unit) × ev_St)) (hK75 : ∀ (x50 : Int) (hx50 : ev_rng x50), ∀ (x51 : Int) (hx51 : ev_rng x51), ∀ (s60 : ev_St) (w52 : List (Nat × Value)), ev_lk w52 0 = some (.ref k) → ev_lk w52 1 = some (.int (Int32.ofInt a0)) → ev_lk w52 2 = some (.int (Int32.ofInt x4)) → ev_lk w52 3 = some (.int (Int32.ofInt x5)) → ev_lk w52 4 = some (.int (Int32.ofInt x6)) → ev_lk w52 5 = some (.int (Int32.ofInt x50)) → ev_lk w52 6 = some (.int (Int32.ofInt x51)) → ev_w none (ev_Mof 68) d 75 w52 [] s60 (K75 x50 x51 s60) ev_eU ev_PU) : ∀ (x50 : Int) (hx50 : ev_rng x50), ∀ (x51 : Int) (hx51 : ev_rng x51), ∀ (s60 : ev_St) (w52 : List (Nat × Value)), ev_lk w52 0 = some (.ref k) → ev_lk w52 1 = some (.int (Int32.ofInt a0)) → ev_lk w52 2 = some (.int (Int32.ofInt x4)) → ev_lk w52 3 = some (.int (Int32.ofInt x5)) → ev_lk w52 4 = some (.int (Int32.ofInt x6)) → ev_lk w52 5 = some (.int (Int32.ofInt x50)) → ev_lk w52 6 = some (.int (Int32.ofInt x51)) → ev_w none (ev_Mof 68) d 75 w52 [] s60 (jb_68_75 Q k a0 x4 x5 x6 K16 K75 x50 x51 s60) ev_eU ev_PU := by
  intro x50 hx50 x51 hx51 s60 w52 e53 e54 e55 e56 e57 e58 e59
  unfold jb_68_75
  refine ev_r_iload (pc := 75) (k := 6) (v := Int32.ofInt x51) (by decide +kernel) (by exact e59) ?_
  refine ev_r_sipush (pc := 77) (k := 400) (by decide +kernel) (by decide +kernel) ?_
  refine ev_r_jn (Q := fun K => ∀ (s67 : ev_St) (w61 : List (Nat × Value)), ev_lk w61 0 = some (.ref k) → ev_lk w61 1 = some (.int (Int32.ofInt a0)) → ev_lk w61 2 = some (.int (Int32.ofInt x4)) → ev_lk w61 3 = some (.int (Int32.ofInt x5)) → ev_lk w61 4 = some (.int (Int32.ofInt x6)) → ev_w none (ev_Mof 68) d 139 w61 [] s67 (K  s67) ev_eU ev_PU) ?_ ?_
  · intro  s67 w61 e62 e63 e64 e65 e66
    refine ev_r_aload_n (pc := 139) (k := 0) (v := .ref k) trivial (by decide +kernel) (by exact e62) ?_
    refine ev_r_getC (pc := 140) (y := 24) (ci := 5) (f := 4) (fin := 1) (k' := (k + 5)) (by decide +kernel) (by decide +kernel) (by exact hk) rfl rfl ?_
    refine ev_r_iload_n (pc := 143) (k := 3) (v := Int32.ofInt x5) (by decide +kernel) (by exact e65) ?_
    refine ev_r_iald (pc := 144) hx5 (by decide +kernel) (by exact (ev_fo_5_4 hk)) ?_
    intro x68 hx68
    refine ev_r_istore_n (pc := 145) (k := 3) (by decide +kernel) (by decide +kernel) rfl ?_
    refine ev_r_iinc (pc := 146) (k := 4) (c := 1) (x := x6) (by decide +kernel) (by decide +kernel) (by exact (ev_l1 e66 (by decide) (by decide))) (fun _ => rfl) ?_
    intro x69 hx69
    refine ev_r_goto (pc := 149) (o := (-133)) (t := 16) (by decide +kernel) (by decide +kernel) ?_
    exact hK16 x4 hx4 x68 hx68 x69 hx69 s67 _ (by exact (ev_l1 (ev_l1 e62 (by decide) (by decide)) (by decide) (by decide))) (by exact (ev_l1 (ev_l1 e63 (by decide) (by decide)) (by decide) (by decide))) (by exact (ev_l1 (ev_lk_st1 e64 (by decide) rfl) (by decide) (by decide))) (by exact (ev_lk_st1 ev_lk_st1_self (by decide) rfl)) (by exact ev_lk_st1_self)
  · intro K139 hK139
    refine ev_r_icmp (pc := 80) (q := .ge) (o := 59) (t := 139) (c := 400 ≤ x51) (by decide +kernel) (ev_k_ge hx51 (by decide)) (by decide +kernel) ?_ ?_
    · intro c70
      exact hK139  s60 _ (by exact e53) (by exact e54) (by exact e55) (by exact e56) (by exact e57)
    · intro c70
      refine ev_r_aload_n (pc := 83) (k := 0) (v := .ref k) trivial (by decide +kernel) (by exact e53) ?_
      refine ev_r_iload (pc := 84) (k := 5) (v := Int32.ofInt x50) (by decide +kernel) (by exact e58) ?_
      refine ev_r_virt (pc := 86) (y := 73) (mi := 59) (na := 1) (k := k) (as := [.int (Int32.ofInt x50)]) (rest := []) (encc := ev_oI) (Q := ev_bl) (fun x S1 h => jt_59 d (by omega) Q k x50 hk hx50 s60 x S1 h) (by exact hk) (by decide +kernel) (by decide +kernel) (by decide +kernel) (by decide +kernel) rfl (by (try simp only [ev_sum, ev_nv_cat]); first | done | rfl) ?_
      intro x72 s71 hx72
      replace hx72 := ev_bl_rng hx72
      show ev_w _ _ _ _ _ [.int (Int32.ofInt x72)] _ _ _ _
      refine ev_r_if (pc := 89) (q := .eq) (o := 50) (t := 139) (c := x72 = 0) (by decide +kernel) (ev_k_eq hx72 ev_rng0) (by decide +kernel) ?_ ?_
      · intro c73
        exact hK139  s71 _ (by exact e53) (by exact e54) (by exact e55) (by exact e56) (by exact e57)
      · intro c73
        refine ev_r_aload_n (pc := 92) (k := 0) (v := .ref k) trivial (by decide +kernel) (by exact e53) ?_
        refine ev_r_getC (pc := 93) (y := 30) (ci := 5) (f := 6) (fin := 1) (k' := (k + 7)) (by decide +kernel) (by decide +kernel) (by exact hk) rfl rfl ?_
        refine ev_r_iload (pc := 96) (k := 5) (v := Int32.ofInt x50) (by decide +kernel) (by exact e58) ?_
        refine ev_r_aload_n (pc := 98) (k := 0) (v := .ref k) trivial (by decide +kernel) (by exact e53) ?_
        refine ev_r_getC (pc := 99) (y := 24) (ci := 5) (f := 4) (fin := 1) (k' := (k + 5)) (by decide +kernel) (by decide +kernel) (by exact hk) rfl rfl ?_
        refine ev_r_iload (pc := 102) (k := 5) (v := Int32.ofInt x50) (by decide +kernel) (by exact e58) ?_
        refine ev_r_iald (pc := 104) hx50 (by decide +kernel) (by exact (ev_fo_5_4 hk)) ?_
        intro x74 hx74
        refine ev_r_jn (Q := fun K => ∀ (x77 : Int) (hx77 : ev_rng x77), ∀ (x76 : Int) (hx76 : ev_rng x76), ∀ (r75 : Nat) (hr75 : ev_isAb r75 1 .int = true), ∀ (s86 : ev_St) (w78 : List (Nat × Value)), ev_lk w78 0 = some (.ref k) → ev_lk w78 1 = some (.int (Int32.ofInt a0)) → ev_lk w78 2 = some (.int (Int32.ofInt x4)) → ev_lk w78 3 = some (.int (Int32.ofInt x5)) → ev_lk w78 4 = some (.int (Int32.ofInt x6)) → ev_lk w78 5 = some (.int (Int32.ofInt x50)) → ev_lk w78 6 = some (.int (Int32.ofInt x51)) → ev_w none (ev_Mof 68) d 123 w78 [.int (Int32.ofInt x77), .int (Int32.ofInt x76), .ref r75] s86 (K x77 x76 r75 s86) ev_eU ev_PU) ?_ ?_
        · intro x77 hx77 x76 hx76 r75 hr75 s86 w78 e79 e80 e81 e82 e83 e84 e85
          refine ev_r_iast (pc := 123) hx77 hx76 (by decide +kernel) (by exact hr75) ?_
          intro s87
          refine ev_r_aload_n (pc := 124) (k := 0) (v := .ref k) trivial (by decide +kernel) (by exact e79) ?_
          refine ev_r_getC (pc := 125) (y := 24) (ci := 5) (f := 4) (fin := 1) (k' := (k + 5)) (by decide +kernel) (by decide +kernel) (by exact hk) rfl rfl ?_
          refine ev_r_iload (pc := 128) (k := 5) (v := Int32.ofInt x50) (by decide +kernel) (by exact e84) ?_
          refine ev_r_iald (pc := 130) hx50 (by decide +kernel) (by exact (ev_fo_5_4 hk)) ?_
          intro x88 hx88
          refine ev_r_istore (pc := 131) (k := 5) (by decide +kernel) (by decide +kernel) rfl ?_
          refine ev_r_iinc (pc := 133) (k := 6) (c := 1) (x := x51) (by decide +kernel) (by decide +kernel) (by exact (ev_l1 e85 (by decide) (by decide))) (fun _ => rfl) ?_
          intro x89 hx89
          refine ev_r_goto (pc := 136) (o := (-61)) (t := 75) (by decide +kernel) (by decide +kernel) ?_
          exact hK75 x88 hx88 x89 hx89 s87 _ (by exact (ev_l1 (ev_l1 e79 (by decide) (by decide)) (by decide) (by decide))) (by exact (ev_l1 (ev_l1 e80 (by decide) (by decide)) (by decide) (by decide))) (by exact (ev_l1 (ev_l1 e81 (by decide) (by decide)) (by decide) (by decide))) (by exact (ev_l1 (ev_l1 e82 (by decide) (by decide)) (by decide) (by decide))) (by exact (ev_l1 (ev_lk_st1 e83 (by decide) rfl) (by decide) (by decide))) (by exact (ev_lk_st1 ev_lk_st1_self (by decide) rfl)) (by exact ev_lk_st1_self)
        · intro K123 hK123
          refine ev_r_if (pc := 105) (q := .ge) (o := 7) (t := 112) (c := 0 ≤ x74) (by decide +kernel) (ev_k_ge hx74 ev_rng0) (by decide +kernel) ?_ ?_
          · intro c90
            refine ev_r_iconst (pc := 112) (k := 4) (by decide +kernel) ?_
            refine ev_r_aload_n (pc := 113) (k := 0) (v := .ref k) trivial (by decide +kernel) (by exact e53) ?_
            refine ev_r_getC (pc := 114) (y := 24) (ci := 5) (f := 4) (fin := 1) (k' := (k + 5)) (by decide +kernel) (by decide +kernel) (by exact hk) rfl rfl ?_
            refine ev_r_iload (pc := 117) (k := 5) (v := Int32.ofInt x50) (by decide +kernel) (by exact e58) ?_
            refine ev_r_iald (pc := 119) hx50 (by decide +kernel) (by exact (ev_fo_5_4 hk)) ?_
            intro x91 hx91
            refine ev_r_imul (pc := 120) (by decide +kernel) ?_
            intro x92 hx92
            refine ev_r_iconst (pc := 121) (k := 0) (by decide +kernel) ?_
            refine ev_r_iadd (pc := 122) (by decide +kernel) ?_
            intro x93 hx93
            exact hK123 x93 hx93 x50 hx50 ((k + 7)) (ev_fo_5_6 hk) s71 _ (by exact e53) (by exact e54) (by exact e55) (by exact e56) (by exact e57) (by exact e58) (by exact e59)
          · intro c90
            refine ev_r_iload_n (pc := 108) (k := 2) (v := Int32.ofInt x4) (by decide +kernel) (by exact e55) ?_
            refine ev_r_goto (pc := 109) (o := 14) (t := 123) (by decide +kernel) (by decide +kernel) ?_
            exact hK123 x4 hx4 x50 hx50 ((k + 7)) (ev_fo_5_6 hk) s71 _ (by exact e53) (by exact e54) (by exact e55) (by exact e56) (by exact e57) (by exact e58) (by exact e59)
theorem jlt_68_75 (d : Nat) (hd : 2 ≤ d + 1) (Q : Nat) (k : Nat) (a0 : Int) (x4 : Int) (x5 : Int) (x6 : Int) (hk : ev_isOb k 5 = true) (ha0 : ev_rng a0) (hx4 : ev_rng x4) (hx5 : ev_rng x5) (hx6 : ev_rng x6) (K16 : Int → Int → Int → ev_St → Option ((Unit) × ev_St)) (hK16 : ∀ (x4 : Int) (hx4 : ev_rng x4), ∀ (x5 : Int) (hx5 : ev_rng x5), ∀ (x6 : Int) (hx6 : ev_rng x6), ∀ (s13 : ev_St) (w7 : List (Nat × Value)), ev_lk w7 0 = some (.ref k) → ev_lk w7 1 = some (.int (Int32.ofInt a0)) → ev_lk w7 2 = some (.int (Int32.ofInt x4)) → ev_lk w7 3 = some (.int (Int32.ofInt x5)) → ev_lk w7 4 = some (.int (Int32.ofInt x6)) → ev_w none (ev_Mof 68) d 16 w7 [] s13 (K16 x4 x5 x6 s13) ev_eU ev_PU) : ∀ q : Nat, ∀ (x50 : Int) (hx50 : ev_rng x50), ∀ (x51 : Int) (hx51 : ev_rng x51), ∀ (s60 : ev_St) (w52 : List (Nat × Value)), ev_lk w52 0 = some (.ref k) → ev_lk w52 1 = some (.int (Int32.ofInt a0)) → ev_lk w52 2 = some (.int (Int32.ofInt x4)) → ev_lk w52 3 = some (.int (Int32.ofInt x5)) → ev_lk w52 4 = some (.int (Int32.ofInt x6)) → ev_lk w52 5 = some (.int (Int32.ofInt x50)) → ev_lk w52 6 = some (.int (Int32.ofInt x51)) → ev_w none (ev_Mof 68) d 75 w52 [] s60 (jl_68_75 Q k a0 x4 x5 x6 K16 q x50 x51 s60) ev_eU ev_PU := by
  intro q
  induction q with
  | zero =>
    intro x50 hx50 x51 hx51 s60 w52 e53 e54 e55 e56 e57 e58 e59
    exact ev_w_none
  | succ q ih => exact jbt_68_75 d hd Q k a0 x4 x5 x6 hk ha0 hx4 hx5 hx6 K16 hK16 _ ih
def jb_68_16 (Q : Nat) (k : Nat) (a0 : Int)  (K16 : Int → Int → Int → ev_St → Option ((Unit) × ev_St)) (x4 : Int) (x5 : Int) (x6 : Int) (s13 : ev_St) : Option ((Unit) × ev_St) := ev_jn (fun  (s17 : ev_St) => ev_if ((0 : Int) ≤ a0 ∧ a0 < (ev_aln ((k + 4)) : Int)) (ev_b (s17.1 ((k + 4)) (Int.toNat a0)) fun x18 => ev_bd (jm_59 Q k x18 s17) fun x20 s19 => if x20 = 0 then (some ((), s19)) else (ev_if ((0 : Int) ≤ x18 ∧ x18 < (ev_aln ((k + 5)) : Int)) (ev_b (s19.1 ((k + 5)) (Int.toNat x18)) fun x22 => if 0 ≤ x22 then (ev_ck (4 * x18) fun x24 => ev_ck (x24 + 0) fun x25 => ev_if ((0 : Int) ≤ a0 ∧ a0 < (ev_aln ((k + 6)) : Int)) (ev_b (ev_pI s19 ((k + 6)) (Int.toNat a0) x25) fun s26 => some ((), s26))) else (ev_if ((0 : Int) ≤ x18 ∧ x18 < (ev_aln ((k + 6)) : Int)) (ev_b (s19.1 ((k + 6)) (Int.toNat x18)) fun x27 => ev_if ((0 : Int) ≤ a0 ∧ a0 < (ev_aln ((k + 6)) : Int)) (ev_b (ev_pI s19 ((k + 6)) (Int.toNat a0) x27) fun s28 => some ((), s28)))))))) fun K152 => if 400 ≤ x6 then (K152  s13) else (ev_bd (jm_59 Q k x5 s13) fun x31 s30 => if x31 = 0 then (K152  s30) else (ev_if ((0 : Int) ≤ x5 ∧ x5 < (ev_aln ((k + 4)) : Int)) (ev_b (s30.1 ((k + 4)) (Int.toNat x5)) fun x33 => ev_if ((0 : Int) ≤ x5 ∧ x5 < (ev_aln ((k + 7)) : Int)) (ev_b (ev_pI s30 ((k + 7)) (Int.toNat x5) x4) fun s34 => ev_bd (jm_59 Q k x33 s34) fun x36 s35 => ev_jn (fun (x37 : Int) (x40 : Int) (x39 : Int) (r38 : Nat) (s48 : ev_St) => ev_if ((0 : Int) ≤ x39 ∧ x39 < (ev_aln r38 : Int)) (ev_b (ev_pI s48 r38 (Int.toNat x39) x40) fun s49 => jl_68_75 Q k a0 x4 x5 x6 K16 Q x37 0 s49)) fun K71 => if x36 = 0 then (K71 x33 x4 x5 ((k + 6)) s35) else (ev_ck (4 * x33) fun x95 => ev_ck (x95 + 0) fun x96 => K71 x33 x96 x5 ((k + 6)) s35)))))
def jl_68_16 (Q : Nat) (k : Nat) (a0 : Int)  : Nat → Int → Int → Int → ev_St → Option ((Unit) × ev_St)
  | 0 => fun _ _ _ _ => none
  | q + 1 => jb_68_16 Q k a0  (jl_68_16 Q k a0  q)
theorem jbt_68_16 (d : Nat) (hd : 2 ≤ d + 1) (Q : Nat) (k : Nat) (a0 : Int) (hk : ev_isOb k 5 = true) (ha0 : ev_rng a0)   (K16 : Int → Int → Int → ev_St → Option ((Unit) × ev_St)) (hK16 : ∀ (x4 : Int) (hx4 : ev_rng x4), ∀ (x5 : Int) (hx5 : ev_rng x5), ∀ (x6 : Int) (hx6 : ev_rng x6), ∀ (s13 : ev_St) (w7 : List (Nat × Value)), ev_lk w7 0 = some (.ref k) → ev_lk w7 1 = some (.int (Int32.ofInt a0)) → ev_lk w7 2 = some (.int (Int32.ofInt x4)) → ev_lk w7 3 = some (.int (Int32.ofInt x5)) → ev_lk w7 4 = some (.int (Int32.ofInt x6)) → ev_w none (ev_Mof 68) d 16 w7 [] s13 (K16 x4 x5 x6 s13) ev_eU ev_PU) : ∀ (x4 : Int) (hx4 : ev_rng x4), ∀ (x5 : Int) (hx5 : ev_rng x5), ∀ (x6 : Int) (hx6 : ev_rng x6), ∀ (s13 : ev_St) (w7 : List (Nat × Value)), ev_lk w7 0 = some (.ref k) → ev_lk w7 1 = some (.int (Int32.ofInt a0)) → ev_lk w7 2 = some (.int (Int32.ofInt x4)) → ev_lk w7 3 = some (.int (Int32.ofInt x5)) → ev_lk w7 4 = some (.int (Int32.ofInt x6)) → ev_w none (ev_Mof 68) d 16 w7 [] s13 (jb_68_16 Q k a0  K16 x4 x5 x6 s13) ev_eU ev_PU := by
  intro x4 hx4 x5 hx5 x6 hx6 s13 w7 e8 e9 e10 e11 e12
  unfold jb_68_16
  refine ev_r_iload (pc := 16) (k := 4) (v := Int32.ofInt x6) (by decide +kernel) (by exact e12) ?_
  refine ev_r_sipush (pc := 18) (k := 400) (by decide +kernel) (by decide +kernel) ?_
  refine ev_r_jn (Q := fun K => ∀ (s17 : ev_St) (w14 : List (Nat × Value)), ev_lk w14 0 = some (.ref k) → ev_lk w14 1 = some (.int (Int32.ofInt a0)) → ev_w none (ev_Mof 68) d 152 w14 [] s17 (K  s17) ev_eU ev_PU) ?_ ?_
  · intro  s17 w14 e15 e16
    refine ev_r_aload_n (pc := 152) (k := 0) (v := .ref k) trivial (by decide +kernel) (by exact e15) ?_
    refine ev_r_getC (pc := 153) (y := 21) (ci := 5) (f := 3) (fin := 1) (k' := (k + 4)) (by decide +kernel) (by decide +kernel) (by exact hk) rfl rfl ?_
    refine ev_r_iload_n (pc := 156) (k := 1) (v := Int32.ofInt a0) (by decide +kernel) (by exact e16) ?_
    refine ev_r_iald (pc := 157) ha0 (by decide +kernel) (by exact (ev_fo_5_3 hk)) ?_
    intro x18 hx18
    refine ev_r_istore (pc := 158) (k := 4) (by decide +kernel) (by decide +kernel) rfl ?_
    refine ev_r_aload_n (pc := 160) (k := 0) (v := .ref k) trivial (by decide +kernel) (by exact (ev_l1 e15 (by decide) (by decide))) ?_
    refine ev_r_iload (pc := 161) (k := 4) (v := Int32.ofInt x18) (by decide +kernel) (by exact ev_lk_st1_self) ?_
    refine ev_r_virt (pc := 163) (y := 73) (mi := 59) (na := 1) (k := k) (as := [.int (Int32.ofInt x18)]) (rest := []) (encc := ev_oI) (Q := ev_bl) (fun x S1 h => jt_59 d (by omega) Q k x18 hk hx18 s17 x S1 h) (by exact hk) (by decide +kernel) (by decide +kernel) (by decide +kernel) (by decide +kernel) rfl (by (try simp only [ev_sum, ev_nv_cat]); first | done | rfl) ?_
    intro x20 s19 hx20
    replace hx20 := ev_bl_rng hx20
    show ev_w _ _ _ _ _ [.int (Int32.ofInt x20)] _ _ _ _
    refine ev_r_if (pc := 166) (q := .eq) (o := 35) (t := 201) (c := x20 = 0) (by decide +kernel) (ev_k_eq hx20 ev_rng0) (by decide +kernel) ?_ ?_
    · intro c21
      exact ev_r_return (pc := 201) (x := ()) trivial (by decide +kernel) (by decide +kernel) rfl
    · intro c21
      refine ev_r_aload_n (pc := 169) (k := 0) (v := .ref k) trivial (by decide +kernel) (by exact (ev_l1 e15 (by decide) (by decide))) ?_
      refine ev_r_getC (pc := 170) (y := 27) (ci := 5) (f := 5) (fin := 1) (k' := (k + 6)) (by decide +kernel) (by decide +kernel) (by exact hk) rfl rfl ?_
      refine ev_r_iload_n (pc := 173) (k := 1) (v := Int32.ofInt a0) (by decide +kernel) (by exact (ev_l1 e16 (by decide) (by decide))) ?_
      refine ev_r_aload_n (pc := 174) (k := 0) (v := .ref k) trivial (by decide +kernel) (by exact (ev_l1 e15 (by decide) (by decide))) ?_
      refine ev_r_getC (pc := 175) (y := 24) (ci := 5) (f := 4) (fin := 1) (k' := (k + 5)) (by decide +kernel) (by decide +kernel) (by exact hk) rfl rfl ?_
      refine ev_r_iload (pc := 178) (k := 4) (v := Int32.ofInt x18) (by decide +kernel) (by exact ev_lk_st1_self) ?_
      refine ev_r_iald (pc := 180) hx18 (by decide +kernel) (by exact (ev_fo_5_4 hk)) ?_
      intro x22 hx22
      refine ev_r_if (pc := 181) (q := .ge) (o := 13) (t := 194) (c := 0 ≤ x22) (by decide +kernel) (ev_k_ge hx22 ev_rng0) (by decide +kernel) ?_ ?_
      · intro c23
        refine ev_r_iconst (pc := 194) (k := 4) (by decide +kernel) ?_
        refine ev_r_iload (pc := 195) (k := 4) (v := Int32.ofInt x18) (by decide +kernel) (by exact ev_lk_st1_self) ?_
        refine ev_r_imul (pc := 197) (by decide +kernel) ?_
        intro x24 hx24
        refine ev_r_iconst (pc := 198) (k := 0) (by decide +kernel) ?_
        refine ev_r_iadd (pc := 199) (by decide +kernel) ?_
        intro x25 hx25
        refine ev_r_iast (pc := 200) hx25 ha0 (by decide +kernel) (by exact (ev_fo_5_5 hk)) ?_
        intro s26
        exact ev_r_return (pc := 201) (x := ()) trivial (by decide +kernel) (by decide +kernel) rfl
      · intro c23
        refine ev_r_aload_n (pc := 184) (k := 0) (v := .ref k) trivial (by decide +kernel) (by exact (ev_l1 e15 (by decide) (by decide))) ?_
        refine ev_r_getC (pc := 185) (y := 27) (ci := 5) (f := 5) (fin := 1) (k' := (k + 6)) (by decide +kernel) (by decide +kernel) (by exact hk) rfl rfl ?_
        refine ev_r_iload (pc := 188) (k := 4) (v := Int32.ofInt x18) (by decide +kernel) (by exact ev_lk_st1_self) ?_
        refine ev_r_iald (pc := 190) hx18 (by decide +kernel) (by exact (ev_fo_5_5 hk)) ?_
        intro x27 hx27
        refine ev_r_goto (pc := 191) (o := 9) (t := 200) (by decide +kernel) (by decide +kernel) ?_
        refine ev_r_iast (pc := 200) hx27 ha0 (by decide +kernel) (by exact (ev_fo_5_5 hk)) ?_
        intro s28
        exact ev_r_return (pc := 201) (x := ()) trivial (by decide +kernel) (by decide +kernel) rfl
  · intro K152 hK152
    refine ev_r_icmp (pc := 21) (q := .ge) (o := 131) (t := 152) (c := 400 ≤ x6) (by decide +kernel) (ev_k_ge hx6 (by decide)) (by decide +kernel) ?_ ?_
    · intro c29
      exact hK152  s13 _ (by exact e8) (by exact e9)
    · intro c29
      refine ev_r_aload_n (pc := 24) (k := 0) (v := .ref k) trivial (by decide +kernel) (by exact e8) ?_
      refine ev_r_iload_n (pc := 25) (k := 3) (v := Int32.ofInt x5) (by decide +kernel) (by exact e11) ?_
      refine ev_r_virt (pc := 26) (y := 73) (mi := 59) (na := 1) (k := k) (as := [.int (Int32.ofInt x5)]) (rest := []) (encc := ev_oI) (Q := ev_bl) (fun x S1 h => jt_59 d (by omega) Q k x5 hk hx5 s13 x S1 h) (by exact hk) (by decide +kernel) (by decide +kernel) (by decide +kernel) (by decide +kernel) rfl (by (try simp only [ev_sum, ev_nv_cat]); first | done | rfl) ?_
      intro x31 s30 hx31
      replace hx31 := ev_bl_rng hx31
      show ev_w _ _ _ _ _ [.int (Int32.ofInt x31)] _ _ _ _
      refine ev_r_if (pc := 29) (q := .eq) (o := 123) (t := 152) (c := x31 = 0) (by decide +kernel) (ev_k_eq hx31 ev_rng0) (by decide +kernel) ?_ ?_
      · intro c32
        exact hK152  s30 _ (by exact e8) (by exact e9)
      · intro c32
        refine ev_r_aload_n (pc := 32) (k := 0) (v := .ref k) trivial (by decide +kernel) (by exact e8) ?_
        refine ev_r_getC (pc := 33) (y := 21) (ci := 5) (f := 3) (fin := 1) (k' := (k + 4)) (by decide +kernel) (by decide +kernel) (by exact hk) rfl rfl ?_
        refine ev_r_iload_n (pc := 36) (k := 3) (v := Int32.ofInt x5) (by decide +kernel) (by exact e11) ?_
        refine ev_r_iald (pc := 37) hx5 (by decide +kernel) (by exact (ev_fo_5_3 hk)) ?_
        intro x33 hx33
        refine ev_r_istore (pc := 38) (k := 5) (by decide +kernel) (by decide +kernel) rfl ?_
        refine ev_r_aload_n (pc := 40) (k := 0) (v := .ref k) trivial (by decide +kernel) (by exact (ev_l1 e8 (by decide) (by decide))) ?_
        refine ev_r_getC (pc := 41) (y := 30) (ci := 5) (f := 6) (fin := 1) (k' := (k + 7)) (by decide +kernel) (by decide +kernel) (by exact hk) rfl rfl ?_
        refine ev_r_iload_n (pc := 44) (k := 3) (v := Int32.ofInt x5) (by decide +kernel) (by exact (ev_l1 e11 (by decide) (by decide))) ?_
        refine ev_r_iload_n (pc := 45) (k := 2) (v := Int32.ofInt x4) (by decide +kernel) (by exact (ev_l1 e10 (by decide) (by decide))) ?_
        refine ev_r_iast (pc := 46) hx4 hx5 (by decide +kernel) (by exact (ev_fo_5_6 hk)) ?_
        intro s34
        refine ev_r_aload_n (pc := 47) (k := 0) (v := .ref k) trivial (by decide +kernel) (by exact (ev_l1 e8 (by decide) (by decide))) ?_
        refine ev_r_getC (pc := 48) (y := 27) (ci := 5) (f := 5) (fin := 1) (k' := (k + 6)) (by decide +kernel) (by decide +kernel) (by exact hk) rfl rfl ?_
        refine ev_r_iload_n (pc := 51) (k := 3) (v := Int32.ofInt x5) (by decide +kernel) (by exact (ev_l1 e11 (by decide) (by decide))) ?_
        refine ev_r_aload_n (pc := 52) (k := 0) (v := .ref k) trivial (by decide +kernel) (by exact (ev_l1 e8 (by decide) (by decide))) ?_
        refine ev_r_iload (pc := 53) (k := 5) (v := Int32.ofInt x33) (by decide +kernel) (by exact ev_lk_st1_self) ?_
        refine ev_r_virt (pc := 55) (y := 73) (mi := 59) (na := 1) (k := k) (as := [.int (Int32.ofInt x33)]) (rest := [.int (Int32.ofInt x5), .ref ((k + 6))]) (encc := ev_oI) (Q := ev_bl) (fun x S1 h => jt_59 d (by omega) Q k x33 hk hx33 s34 x S1 h) (by exact hk) (by decide +kernel) (by decide +kernel) (by decide +kernel) (by decide +kernel) rfl (by (try simp only [ev_sum, ev_nv_cat]); first | done | rfl) ?_
        intro x36 s35 hx36
        replace hx36 := ev_bl_rng hx36
        show ev_w _ _ _ _ _ [.int (Int32.ofInt x36), .int (Int32.ofInt x5), .ref ((k + 6))] _ _ _ _
        refine ev_r_jn (Q := fun K => ∀ (x37 : Int) (hx37 : ev_rng x37), ∀ (x40 : Int) (hx40 : ev_rng x40), ∀ (x39 : Int) (hx39 : ev_rng x39), ∀ (r38 : Nat) (hr38 : ev_isAb r38 1 .int = true), ∀ (s48 : ev_St) (w41 : List (Nat × Value)), ev_lk w41 0 = some (.ref k) → ev_lk w41 1 = some (.int (Int32.ofInt a0)) → ev_lk w41 2 = some (.int (Int32.ofInt x4)) → ev_lk w41 3 = some (.int (Int32.ofInt x5)) → ev_lk w41 4 = some (.int (Int32.ofInt x6)) → ev_lk w41 5 = some (.int (Int32.ofInt x37)) → ev_w none (ev_Mof 68) d 71 w41 [.int (Int32.ofInt x40), .int (Int32.ofInt x39), .ref r38] s48 (K x37 x40 x39 r38 s48) ev_eU ev_PU) ?_ ?_
        · intro x37 hx37 x40 hx40 x39 hx39 r38 hr38 s48 w41 e42 e43 e44 e45 e46 e47
          refine ev_r_iast (pc := 71) hx40 hx39 (by decide +kernel) (by exact hr38) ?_
          intro s49
          refine ev_r_iconst (pc := 72) (k := 0) (by decide +kernel) ?_
          refine ev_r_istore (pc := 73) (k := 6) (by decide +kernel) (by decide +kernel) rfl ?_
          exact jlt_68_75 d hd Q k a0 x4 x5 x6 hk ha0 hx4 hx5 hx6 K16 hK16 Q x37 hx37 0 (by decide) s49 _ (by exact (ev_l1 e42 (by decide) (by decide))) (by exact (ev_l1 e43 (by decide) (by decide))) (by exact (ev_l1 e44 (by decide) (by decide))) (by exact (ev_l1 e45 (by decide) (by decide))) (by exact (ev_l1 e46 (by decide) (by decide))) (by exact (ev_lk_st1 e47 (by decide) rfl)) (by exact ev_lk_st1_self)
        · intro K71 hK71
          refine ev_r_if (pc := 58) (q := .eq) (o := 12) (t := 70) (c := x36 = 0) (by decide +kernel) (ev_k_eq hx36 ev_rng0) (by decide +kernel) ?_ ?_
          · intro c94
            refine ev_r_iload_n (pc := 70) (k := 2) (v := Int32.ofInt x4) (by decide +kernel) (by exact (ev_l1 e10 (by decide) (by decide))) ?_
            exact hK71 x33 hx33 x4 hx4 x5 hx5 ((k + 6)) (ev_fo_5_5 hk) s35 _ (by exact (ev_l1 e8 (by decide) (by decide))) (by exact (ev_l1 e9 (by decide) (by decide))) (by exact (ev_l1 e10 (by decide) (by decide))) (by exact (ev_l1 e11 (by decide) (by decide))) (by exact (ev_lk_st1 e12 (by decide) rfl)) (by exact ev_lk_st1_self)
          · intro c94
            refine ev_r_iconst (pc := 61) (k := 4) (by decide +kernel) ?_
            refine ev_r_iload (pc := 62) (k := 5) (v := Int32.ofInt x33) (by decide +kernel) (by exact ev_lk_st1_self) ?_
            refine ev_r_imul (pc := 64) (by decide +kernel) ?_
            intro x95 hx95
            refine ev_r_iconst (pc := 65) (k := 0) (by decide +kernel) ?_
            refine ev_r_iadd (pc := 66) (by decide +kernel) ?_
            intro x96 hx96
            refine ev_r_goto (pc := 67) (o := 4) (t := 71) (by decide +kernel) (by decide +kernel) ?_
            exact hK71 x33 hx33 x96 hx96 x5 hx5 ((k + 6)) (ev_fo_5_5 hk) s35 _ (by exact (ev_l1 e8 (by decide) (by decide))) (by exact (ev_l1 e9 (by decide) (by decide))) (by exact (ev_l1 e10 (by decide) (by decide))) (by exact (ev_l1 e11 (by decide) (by decide))) (by exact (ev_lk_st1 e12 (by decide) rfl)) (by exact ev_lk_st1_self)
theorem jlt_68_16 (d : Nat) (hd : 2 ≤ d + 1) (Q : Nat) (k : Nat) (a0 : Int) (hk : ev_isOb k 5 = true) (ha0 : ev_rng a0)   : ∀ q : Nat, ∀ (x4 : Int) (hx4 : ev_rng x4), ∀ (x5 : Int) (hx5 : ev_rng x5), ∀ (x6 : Int) (hx6 : ev_rng x6), ∀ (s13 : ev_St) (w7 : List (Nat × Value)), ev_lk w7 0 = some (.ref k) → ev_lk w7 1 = some (.int (Int32.ofInt a0)) → ev_lk w7 2 = some (.int (Int32.ofInt x4)) → ev_lk w7 3 = some (.int (Int32.ofInt x5)) → ev_lk w7 4 = some (.int (Int32.ofInt x6)) → ev_w none (ev_Mof 68) d 16 w7 [] s13 (jl_68_16 Q k a0  q x4 x5 x6 s13) ev_eU ev_PU := by
  intro q
  induction q with
  | zero =>
    intro x4 hx4 x5 hx5 x6 hx6 s13 w7 e8 e9 e10 e11 e12
    exact ev_w_none
  | succ q ih => exact jbt_68_16 d hd Q k a0 hk ha0   _ ih
/-- MendBench$Pattern.tieRows(I)V -/
def jm_68 (Q : Nat) (k : Nat) (a0 : Int) (S : ev_St) : Option ((Unit) × ev_St) := ev_ck (4 * a0) fun x1 => ev_ck (x1 + 1) fun x2 => ev_if ((0 : Int) ≤ a0 ∧ a0 < (ev_aln ((k + 4)) : Int)) (ev_b (S.1 ((k + 4)) (Int.toNat a0)) fun x3 => jl_68_16 Q k a0  Q x2 x3 0 S)
theorem jt_68 (d : Nat) (hd : 2 ≤ d) (Q : Nat) (k : Nat) (a0 : Int) (hk : ev_isOb k 5 = true) (ha0 : ev_rng a0) (S : ev_St) (x : Unit) (S' : ev_St) (hJ : jm_68 Q k a0 S = some (x, S')) : ev_Ref d 68 [.ref k, .int (Int32.ofInt a0)] S (ev_eU x) S' (ev_PU x) := by
  obtain ⟨d, rfl⟩ : ∃ e, d = e + 1 := ⟨d - 1, by omega⟩
  refine ev_ref_of (P := ev_PU) (lv := [(0, .ref k), (1, .int (Int32.ofInt a0))]) (by decide +kernel) (by (try simp only [ev_sum, ev_nv_cat]); first | done | rfl) (by (try simp only [lv_args, ev_nv_cat]); first | done | rfl) ?_ x S' hJ
  unfold jm_68
  refine ev_r_iconst (pc := 0) (k := 4) (by decide +kernel) ?_
  refine ev_r_iload_n (pc := 1) (k := 1) (v := Int32.ofInt a0) (by decide +kernel) (by rfl) ?_
  refine ev_r_imul (pc := 2) (by decide +kernel) ?_
  intro x1 hx1
  refine ev_r_iconst (pc := 3) (k := 1) (by decide +kernel) ?_
  refine ev_r_iadd (pc := 4) (by decide +kernel) ?_
  intro x2 hx2
  refine ev_r_istore_n (pc := 5) (k := 2) (by decide +kernel) (by decide +kernel) rfl ?_
  refine ev_r_aload_n (pc := 6) (k := 0) (v := .ref k) trivial (by decide +kernel) (by exact (ev_l1 (by rfl) (by decide) (by decide))) ?_
  refine ev_r_getC (pc := 7) (y := 21) (ci := 5) (f := 3) (fin := 1) (k' := (k + 4)) (by decide +kernel) (by decide +kernel) (by exact hk) rfl rfl ?_
  refine ev_r_iload_n (pc := 10) (k := 1) (v := Int32.ofInt a0) (by decide +kernel) (by exact (ev_lk_st1 (by rfl) (by decide) rfl)) ?_
  refine ev_r_iald (pc := 11) ha0 (by decide +kernel) (by exact (ev_fo_5_3 hk)) ?_
  intro x3 hx3
  refine ev_r_istore_n (pc := 12) (k := 3) (by decide +kernel) (by decide +kernel) rfl ?_
  refine ev_r_iconst (pc := 13) (k := 0) (by decide +kernel) ?_
  refine ev_r_istore (pc := 14) (k := 4) (by decide +kernel) (by decide +kernel) rfl ?_
  exact jlt_68_16 d hd Q k a0 hk ha0   Q x2 hx2 x3 hx3 0 (by decide) S _ (by exact (ev_l1 (ev_l1 (ev_l1 (by rfl) (by decide) (by decide)) (by decide) (by decide)) (by decide) (by decide))) (by exact (ev_l1 (ev_l1 (ev_lk_st1 (by rfl) (by decide) rfl) (by decide) (by decide)) (by decide) (by decide))) (by exact (ev_l1 (ev_lk_st1 ev_lk_st1_self (by decide) rfl) (by decide) (by decide))) (by exact (ev_lk_st1 ev_lk_st1_self (by decide) rfl)) (by exact ev_lk_st1_self)
def jb_67_2 (Q : Nat) (k : Nat)  (K2 : Int → ev_St → Option ((Unit) × ev_St)) (x1 : Int) (s5 : ev_St) : Option ((Unit) × ev_St) := ev_b (s5.1 k 11) fun x6 => if x6 ≤ x1 then (some ((), s5)) else (if 400 ≤ x1 then (some ((), s5)) else (ev_if ((0 : Int) ≤ x1 ∧ x1 < (ev_aln ((k + 4)) : Int)) (ev_b (s5.1 ((k + 4)) (Int.toNat x1)) fun x9 => ev_if ((0 : Int) ≤ x1 ∧ x1 < (ev_aln ((k + 1)) : Int)) (ev_b (s5.1 ((k + 1)) (Int.toNat x1)) fun x10 => ev_bd (jm_62 Q x10 s5) fun x12 s11 => ev_jn (fun  (s16 : ev_St) => ev_ck (x1 + 1) fun x17 => K2 x17 s16) fun K75 => ev_jn (fun  (s21 : ev_St) => ev_if ((0 : Int) ≤ x1 ∧ x1 < (ev_aln ((k + 1)) : Int)) (ev_b (s21.1 ((k + 1)) (Int.toNat x1)) fun x22 => ev_bd (jm_64 Q x22 s21) fun x24 s23 => if x24 = 0 then (K75  s23) else (ev_bd (jm_68 Q k x1 s23) fun _ s26 => K75  s26))) fun K58 => if x12 = 0 then (K58  s11) else (ev_bd (jm_59 Q k x9 s11) fun x29 s28 => if x29 = 0 then (K58  s28) else (ev_ck (4 * x1) fun x31 => ev_ck (x31 + 1) fun x32 => ev_if ((0 : Int) ≤ x9 ∧ x9 < (ev_aln ((k + 7)) : Int)) (ev_b (ev_pI s28 ((k + 7)) (Int.toNat x9) x32) fun s33 => K75  s33)))))))
def jl_67_2 (Q : Nat) (k : Nat)  : Nat → Int → ev_St → Option ((Unit) × ev_St)
  | 0 => fun _ _ => none
  | q + 1 => jb_67_2 Q k  (jl_67_2 Q k  q)
theorem jbt_67_2 (d : Nat) (hd : 3 ≤ d + 1) (Q : Nat) (k : Nat) (hk : ev_isOb k 5 = true)   (K2 : Int → ev_St → Option ((Unit) × ev_St)) (hK2 : ∀ (x1 : Int) (hx1 : ev_rng x1), ∀ (s5 : ev_St) (w2 : List (Nat × Value)), ev_lk w2 0 = some (.ref k) → ev_lk w2 1 = some (.int (Int32.ofInt x1)) → ev_w none (ev_Mof 67) d 2 w2 [] s5 (K2 x1 s5) ev_eU ev_PU) : ∀ (x1 : Int) (hx1 : ev_rng x1), ∀ (s5 : ev_St) (w2 : List (Nat × Value)), ev_lk w2 0 = some (.ref k) → ev_lk w2 1 = some (.int (Int32.ofInt x1)) → ev_w none (ev_Mof 67) d 2 w2 [] s5 (jb_67_2 Q k  K2 x1 s5) ev_eU ev_PU := by
  intro x1 hx1 s5 w2 e3 e4
  unfold jb_67_2
  refine ev_r_iload_n (pc := 2) (k := 1) (v := Int32.ofInt x1) (by decide +kernel) (by exact e4) ?_
  refine ev_r_aload_n (pc := 3) (k := 0) (v := .ref k) trivial (by decide +kernel) (by exact e3) ?_
  refine ev_r_getI (pc := 4) (y := 60) (ci := 5) (f := 11) (fin := 0) (by decide +kernel) (by decide +kernel) (by exact hk) rfl ?_
  intro x6 hx6
  refine ev_r_icmp (pc := 7) (q := .ge) (o := 74) (t := 81) (c := x6 ≤ x1) (by decide +kernel) (ev_k_ge hx1 hx6) (by decide +kernel) ?_ ?_
  · intro c7
    exact ev_r_return (pc := 81) (x := ()) trivial (by decide +kernel) (by decide +kernel) rfl
  · intro c7
    refine ev_r_iload_n (pc := 10) (k := 1) (v := Int32.ofInt x1) (by decide +kernel) (by exact e4) ?_
    refine ev_r_sipush (pc := 11) (k := 400) (by decide +kernel) (by decide +kernel) ?_
    refine ev_r_icmp (pc := 14) (q := .ge) (o := 67) (t := 81) (c := 400 ≤ x1) (by decide +kernel) (ev_k_ge hx1 (by decide)) (by decide +kernel) ?_ ?_
    · intro c8
      exact ev_r_return (pc := 81) (x := ()) trivial (by decide +kernel) (by decide +kernel) rfl
    · intro c8
      refine ev_r_aload_n (pc := 17) (k := 0) (v := .ref k) trivial (by decide +kernel) (by exact e3) ?_
      refine ev_r_getC (pc := 18) (y := 21) (ci := 5) (f := 3) (fin := 1) (k' := (k + 4)) (by decide +kernel) (by decide +kernel) (by exact hk) rfl rfl ?_
      refine ev_r_iload_n (pc := 21) (k := 1) (v := Int32.ofInt x1) (by decide +kernel) (by exact e4) ?_
      refine ev_r_iald (pc := 22) hx1 (by decide +kernel) (by exact (ev_fo_5_3 hk)) ?_
      intro x9 hx9
      refine ev_r_istore_n (pc := 23) (k := 2) (by decide +kernel) (by decide +kernel) rfl ?_
      refine ev_r_aload_n (pc := 24) (k := 0) (v := .ref k) trivial (by decide +kernel) (by exact (ev_l1 e3 (by decide) (by decide))) ?_
      refine ev_r_getC (pc := 25) (y := 11) (ci := 5) (f := 0) (fin := 1) (k' := (k + 1)) (by decide +kernel) (by decide +kernel) (by exact hk) rfl rfl ?_
      refine ev_r_iload_n (pc := 28) (k := 1) (v := Int32.ofInt x1) (by decide +kernel) (by exact (ev_lk_st1 e4 (by decide) rfl)) ?_
      refine ev_r_iald (pc := 29) hx1 (by decide +kernel) (by exact (ev_fo_5_0 hk)) ?_
      intro x10 hx10
      refine ev_r_stat (pc := 30) (y := 83) (kind := 2) (mi := 62) (na := 1) (as := [.int (Int32.ofInt x10)]) (rest := []) (encc := ev_oI) (Q := ev_bl) (fun x S1 h => jt_62 d (by omega) Q x10 hx10 s5 x S1 h) (Or.inl rfl) (by decide +kernel) (by decide +kernel) (by decide +kernel) (by decide +kernel) rfl (by (try simp only [ev_sum, ev_nv_cat]); first | done | rfl) ?_
      intro x12 s11 hx12
      replace hx12 := ev_bl_rng hx12
      show ev_w _ _ _ _ _ [.int (Int32.ofInt x12)] _ _ _ _
      refine ev_r_jn (Q := fun K => ∀ (s16 : ev_St) (w13 : List (Nat × Value)), ev_lk w13 0 = some (.ref k) → ev_lk w13 1 = some (.int (Int32.ofInt x1)) → ev_w none (ev_Mof 67) d 75 w13 [] s16 (K  s16) ev_eU ev_PU) ?_ ?_
      · intro  s16 w13 e14 e15
        refine ev_r_iinc (pc := 75) (k := 1) (c := 1) (x := x1) (by decide +kernel) (by decide +kernel) (by exact e15) (fun _ => rfl) ?_
        intro x17 hx17
        refine ev_r_goto (pc := 78) (o := (-76)) (t := 2) (by decide +kernel) (by decide +kernel) ?_
        exact hK2 x17 hx17 s16 _ (by exact (ev_lk_st1 e14 (by decide) rfl)) (by exact ev_lk_st1_self)
      · intro K75 hK75
        refine ev_r_jn (Q := fun K => ∀ (s21 : ev_St) (w18 : List (Nat × Value)), ev_lk w18 0 = some (.ref k) → ev_lk w18 1 = some (.int (Int32.ofInt x1)) → ev_w none (ev_Mof 67) d 58 w18 [] s21 (K  s21) ev_eU ev_PU) ?_ ?_
        · intro  s21 w18 e19 e20
          refine ev_r_aload_n (pc := 58) (k := 0) (v := .ref k) trivial (by decide +kernel) (by exact e19) ?_
          refine ev_r_getC (pc := 59) (y := 11) (ci := 5) (f := 0) (fin := 1) (k' := (k + 1)) (by decide +kernel) (by decide +kernel) (by exact hk) rfl rfl ?_
          refine ev_r_iload_n (pc := 62) (k := 1) (v := Int32.ofInt x1) (by decide +kernel) (by exact e20) ?_
          refine ev_r_iald (pc := 63) hx1 (by decide +kernel) (by exact (ev_fo_5_0 hk)) ?_
          intro x22 hx22
          refine ev_r_stat (pc := 64) (y := 86) (kind := 2) (mi := 64) (na := 1) (as := [.int (Int32.ofInt x22)]) (rest := []) (encc := ev_oI) (Q := ev_bl) (fun x S1 h => jt_64 d (by omega) Q x22 hx22 s21 x S1 h) (Or.inl rfl) (by decide +kernel) (by decide +kernel) (by decide +kernel) (by decide +kernel) rfl (by (try simp only [ev_sum, ev_nv_cat]); first | done | rfl) ?_
          intro x24 s23 hx24
          replace hx24 := ev_bl_rng hx24
          show ev_w _ _ _ _ _ [.int (Int32.ofInt x24)] _ _ _ _
          refine ev_r_if (pc := 67) (q := .eq) (o := 8) (t := 75) (c := x24 = 0) (by decide +kernel) (ev_k_eq hx24 ev_rng0) (by decide +kernel) ?_ ?_
          · intro c25
            exact hK75  s23 _ (by exact e19) (by exact e20)
          · intro c25
            refine ev_r_aload_n (pc := 70) (k := 0) (v := .ref k) trivial (by decide +kernel) (by exact e19) ?_
            refine ev_r_iload_n (pc := 71) (k := 1) (v := Int32.ofInt x1) (by decide +kernel) (by exact e20) ?_
            refine ev_r_virt (pc := 72) (y := 89) (mi := 68) (na := 1) (k := k) (as := [.int (Int32.ofInt x1)]) (rest := []) (encc := ev_oU) (Q := ev_PU) (fun x S1 h => jt_68 d (by omega) Q k x1 hk hx1 s23 x S1 h) (by exact hk) (by decide +kernel) (by decide +kernel) (by decide +kernel) (by decide +kernel) rfl (by (try simp only [ev_sum, ev_nv_cat]); first | done | rfl) ?_
            intro _ s26 _
            show ev_w _ _ _ _ _ [] _ _ _ _
            exact hK75  s26 _ (by exact e19) (by exact e20)
        · intro K58 hK58
          refine ev_r_if (pc := 33) (q := .eq) (o := 25) (t := 58) (c := x12 = 0) (by decide +kernel) (ev_k_eq hx12 ev_rng0) (by decide +kernel) ?_ ?_
          · intro c27
            exact hK58  s11 _ (by exact (ev_l1 e3 (by decide) (by decide))) (by exact (ev_lk_st1 e4 (by decide) rfl))
          · intro c27
            refine ev_r_aload_n (pc := 36) (k := 0) (v := .ref k) trivial (by decide +kernel) (by exact (ev_l1 e3 (by decide) (by decide))) ?_
            refine ev_r_iload_n (pc := 37) (k := 2) (v := Int32.ofInt x9) (by decide +kernel) (by exact ev_lk_st1_self) ?_
            refine ev_r_virt (pc := 38) (y := 73) (mi := 59) (na := 1) (k := k) (as := [.int (Int32.ofInt x9)]) (rest := []) (encc := ev_oI) (Q := ev_bl) (fun x S1 h => jt_59 d (by omega) Q k x9 hk hx9 s11 x S1 h) (by exact hk) (by decide +kernel) (by decide +kernel) (by decide +kernel) (by decide +kernel) rfl (by (try simp only [ev_sum, ev_nv_cat]); first | done | rfl) ?_
            intro x29 s28 hx29
            replace hx29 := ev_bl_rng hx29
            show ev_w _ _ _ _ _ [.int (Int32.ofInt x29)] _ _ _ _
            refine ev_r_if (pc := 41) (q := .eq) (o := 17) (t := 58) (c := x29 = 0) (by decide +kernel) (ev_k_eq hx29 ev_rng0) (by decide +kernel) ?_ ?_
            · intro c30
              exact hK58  s28 _ (by exact (ev_l1 e3 (by decide) (by decide))) (by exact (ev_lk_st1 e4 (by decide) rfl))
            · intro c30
              refine ev_r_aload_n (pc := 44) (k := 0) (v := .ref k) trivial (by decide +kernel) (by exact (ev_l1 e3 (by decide) (by decide))) ?_
              refine ev_r_getC (pc := 45) (y := 30) (ci := 5) (f := 6) (fin := 1) (k' := (k + 7)) (by decide +kernel) (by decide +kernel) (by exact hk) rfl rfl ?_
              refine ev_r_iload_n (pc := 48) (k := 2) (v := Int32.ofInt x9) (by decide +kernel) (by exact ev_lk_st1_self) ?_
              refine ev_r_iconst (pc := 49) (k := 4) (by decide +kernel) ?_
              refine ev_r_iload_n (pc := 50) (k := 1) (v := Int32.ofInt x1) (by decide +kernel) (by exact (ev_lk_st1 e4 (by decide) rfl)) ?_
              refine ev_r_imul (pc := 51) (by decide +kernel) ?_
              intro x31 hx31
              refine ev_r_iconst (pc := 52) (k := 1) (by decide +kernel) ?_
              refine ev_r_iadd (pc := 53) (by decide +kernel) ?_
              intro x32 hx32
              refine ev_r_iast (pc := 54) hx32 hx9 (by decide +kernel) (by exact (ev_fo_5_6 hk)) ?_
              intro s33
              refine ev_r_goto (pc := 55) (o := 20) (t := 75) (by decide +kernel) (by decide +kernel) ?_
              exact hK75  s33 _ (by exact (ev_l1 e3 (by decide) (by decide))) (by exact (ev_lk_st1 e4 (by decide) rfl))
theorem jlt_67_2 (d : Nat) (hd : 3 ≤ d + 1) (Q : Nat) (k : Nat) (hk : ev_isOb k 5 = true)   : ∀ q : Nat, ∀ (x1 : Int) (hx1 : ev_rng x1), ∀ (s5 : ev_St) (w2 : List (Nat × Value)), ev_lk w2 0 = some (.ref k) → ev_lk w2 1 = some (.int (Int32.ofInt x1)) → ev_w none (ev_Mof 67) d 2 w2 [] s5 (jl_67_2 Q k  q x1 s5) ev_eU ev_PU := by
  intro q
  induction q with
  | zero =>
    intro x1 hx1 s5 w2 e3 e4
    exact ev_w_none
  | succ q ih => exact jbt_67_2 d hd Q k hk   _ ih
/-- MendBench$Pattern.tie()V -/
def jm_67 (Q : Nat) (k : Nat) (S : ev_St) : Option ((Unit) × ev_St) := jl_67_2 Q k  Q 0 S
theorem jt_67 (d : Nat) (hd : 3 ≤ d) (Q : Nat) (k : Nat) (hk : ev_isOb k 5 = true) (S : ev_St) (x : Unit) (S' : ev_St) (hJ : jm_67 Q k S = some (x, S')) : ev_Ref d 67 [.ref k] S (ev_eU x) S' (ev_PU x) := by
  obtain ⟨d, rfl⟩ : ∃ e, d = e + 1 := ⟨d - 1, by omega⟩
  refine ev_ref_of (P := ev_PU) (lv := [(0, .ref k)]) (by decide +kernel) (by (try simp only [ev_sum, ev_nv_cat]); first | done | rfl) (by (try simp only [lv_args, ev_nv_cat]); first | done | rfl) ?_ x S' hJ
  unfold jm_67
  refine ev_r_iconst (pc := 0) (k := 0) (by decide +kernel) ?_
  refine ev_r_istore_n (pc := 1) (k := 1) (by decide +kernel) (by decide +kernel) rfl ?_
  exact jlt_67_2 d hd Q k hk   Q 0 (by decide) S _ (by exact (ev_lk_st1 (by rfl) (by decide) rfl)) (by exact ev_lk_st1_self)
/-- MendBench$Reader.keepPart(ILMendBench$Text;)V -/
def jm_82 (Q : Nat) (a0 : Int) (a1 : Nat) (S : ev_St) : Option ((Unit) × ev_St) := ev_bd (jm_209 Q a0 S) fun x2 s1 => if x2 = 0 then (some ((), s1)) else (ev_ck (a0 - 97) fun x4 => ev_if ((0 : Int) ≤ x4 ∧ x4 < (26 : Int)) (ev_b (169 + 2 * Int.toNat x4) fun _ => ev_bd (jm_153 Q ((169 + 2 * Int.toNat x4)) a1 s1) fun _ s7 => ev_ck (a0 - 97) fun x8 => ev_if ((0 : Int) ≤ x8 ∧ x8 < (ev_aln 5 : Int)) (ev_b (ev_pI s7 5 (Int.toNat x8) 1) fun s9 => some ((), s9))))
theorem jt_82 (d : Nat) (hd : 2 ≤ d) (Q : Nat) (a0 : Int) (a1 : Nat) (ha0 : ev_rng a0) (ha1 : a1 = 0 ∨ ev_isOb (a1 - 1) 10 = true) (S : ev_St) (x : Unit) (S' : ev_St) (hJ : jm_82 Q a0 a1 S = some (x, S')) : ev_Ref d 82 [.ref 3, .int (Int32.ofInt a0), ev_nv a1] S (ev_eU x) S' (ev_PU x) := by
  obtain ⟨d, rfl⟩ : ∃ e, d = e + 1 := ⟨d - 1, by omega⟩
  refine ev_ref_of (P := ev_PU) (lv := [(0, .ref 3), (1, .int (Int32.ofInt a0)), (2, ev_nv a1)]) (by decide +kernel) (by (try simp only [ev_sum, ev_nv_cat]); first | done | rfl) (by (try simp only [lv_args, ev_nv_cat]); first | done | rfl) ?_ x S' hJ
  unfold jm_82
  refine ev_r_iload_n (pc := 0) (k := 1) (v := Int32.ofInt a0) (by decide +kernel) (by rfl) ?_
  refine ev_r_stat (pc := 1) (y := 43) (kind := 5) (mi := 209) (na := 1) (as := [.int (Int32.ofInt a0)]) (rest := []) (encc := ev_oI) (Q := ev_bl) (fun x S1 h => jt_209 d (by omega) Q a0 ha0 S x S1 h) (Or.inr (Or.inl rfl)) (by decide +kernel) (by decide +kernel) (by decide +kernel) (by decide +kernel) rfl (by (try simp only [ev_sum, ev_nv_cat]); first | done | rfl) ?_
  intro x2 s1 hx2
  replace hx2 := ev_bl_rng hx2
  show ev_w _ _ _ _ _ [.int (Int32.ofInt x2)] _ _ _ _
  refine ev_r_if (pc := 4) (q := .eq) (o := 26) (t := 30) (c := x2 = 0) (by decide +kernel) (ev_k_eq hx2 ev_rng0) (by decide +kernel) ?_ ?_
  · intro c3
    exact ev_r_return (pc := 30) (x := ()) trivial (by decide +kernel) (by decide +kernel) rfl
  · intro c3
    refine ev_r_aload_n (pc := 7) (k := 0) (v := .ref 3) trivial (by decide +kernel) (by rfl) ?_
    refine ev_r_getC (pc := 8) (y := 11) (ci := 7) (f := 0) (fin := 1) (k' := 4) (by decide +kernel) (by decide +kernel) (by exact ev_ob_3) rfl rfl ?_
    refine ev_r_iload_n (pc := 11) (k := 1) (v := Int32.ofInt a0) (by decide +kernel) (by rfl) ?_
    refine ev_r_bipush (pc := 12) (k := 97) (by decide +kernel) (by decide +kernel) ?_
    refine ev_r_isub (pc := 14) (by decide +kernel) ?_
    intro x4 hx4
    refine ev_r_aald (pc := 15) (N := 26) (b := 169) (c := 2) (C := "MendBench$Text") hx4 (by decide +kernel) (by decide +kernel) ?_
    intro c5
    refine ev_r_aload_n (pc := 16) (k := 2) (v := ev_nv a1) (ev_isR_nv _) (by decide +kernel) (by rfl) ?_
    refine ev_r_virt (pc := 17) (y := 47) (mi := 153) (na := 1) (k := (169 + 2 * Int.toNat x4)) (as := [ev_nv a1]) (rest := []) (encc := ev_oU) (Q := ev_PU) (fun x S1 h => jt_153 d (by omega) Q ((169 + 2 * Int.toNat x4)) a1 (ev_el_4 c5) (by exact ha1) s1 x S1 h) (by exact (ev_el_4 c5)) (by decide +kernel) (by decide +kernel) (by decide +kernel) (by decide +kernel) rfl (by (try simp only [ev_sum, ev_nv_cat]); first | done | rfl) ?_
    intro _ s7 _
    show ev_w _ _ _ _ _ [] _ _ _ _
    refine ev_r_aload_n (pc := 20) (k := 0) (v := .ref 3) trivial (by decide +kernel) (by rfl) ?_
    refine ev_r_getC (pc := 21) (y := 17) (ci := 7) (f := 1) (fin := 1) (k' := 5) (by decide +kernel) (by decide +kernel) (by exact ev_ob_3) rfl rfl ?_
    refine ev_r_iload_n (pc := 24) (k := 1) (v := Int32.ofInt a0) (by decide +kernel) (by rfl) ?_
    refine ev_r_bipush (pc := 25) (k := 97) (by decide +kernel) (by decide +kernel) ?_
    refine ev_r_isub (pc := 27) (by decide +kernel) ?_
    intro x8 hx8
    refine ev_r_iconst (pc := 28) (k := 1) (by decide +kernel) ?_
    refine ev_r_bast (pc := 29) (ty := .boolean) (Or.inr rfl) (ev_nar_bl (by decide : ev_bl 1)) (by decide) hx8 (by decide +kernel) (by exact ev_ab_5) ?_
    intro s9
    exact ev_r_return (pc := 30) (x := ()) trivial (by decide +kernel) (by decide +kernel) rfl
/-- MendBench$Reader.begin(IIZ)Z -/
def jm_98 (Q : Nat) (a0 : Int) (a1 : Int) (a2 : Int) (S : ev_St) : Option ((Int) × ev_St) := ev_b (S.1 3 10) fun x1 => ev_ck (x1 + 1) fun x2 => if x2 < 0 then (some (0, S)) else (ev_b (S.1 3 10) fun x4 => ev_ck (x4 + 1) fun x5 => if x5 < 152 then (ev_b (S.1 3 10) fun x7 => ev_ck (x7 + 1) fun x8 => ev_b (ev_pI S 3 10 x8) fun s9 => ev_b (s9.1 3 10) fun x10 => ev_if ((0 : Int) ≤ x10 ∧ x10 < (152 : Int)) (ev_b (17 + 1 * Int.toNat x10) fun _ => ev_b (ev_pI s9 ((17 + 1 * Int.toNat x10)) 0 a0) fun s13 => ev_b (ev_pI s13 ((17 + 1 * Int.toNat x10)) 1 a1) fun s14 => ev_b (s14.1 3 11) fun x15 => ev_b (ev_pI s14 ((17 + 1 * Int.toNat x10)) 2 x15) fun s16 => ev_if (ev_bl a2) (ev_b (ev_pI s16 ((17 + 1 * Int.toNat x10)) 3 a2) fun s17 => ev_b (ev_pI s17 ((17 + 1 * Int.toNat x10)) 4 ((-1))) fun s19 => ev_b (ev_pI s19 ((17 + 1 * Int.toNat x10)) 5 ((-1))) fun s20 => ev_b (ev_pI s20 ((17 + 1 * Int.toNat x10)) 6 ((-1))) fun s21 => ev_b (ev_pI s21 ((17 + 1 * Int.toNat x10)) 7 ((-1))) fun s22 => ev_b (ev_pI s22 ((17 + 1 * Int.toNat x10)) 8 ((-1))) fun s23 => ev_b (ev_pI s23 3 13 0) fun s24 => some (1, s24)))) else (some (0, S)))
theorem jt_98 (d : Nat) (hd : 1 ≤ d) (Q : Nat) (a0 : Int) (a1 : Int) (a2 : Int) (ha0 : ev_rng a0) (ha1 : ev_rng a1) (ha2 : ev_rng a2) (S : ev_St) (x : Int) (S' : ev_St) (hJ : jm_98 Q a0 a1 a2 S = some (x, S')) : ev_Ref d 98 [.ref 3, .int (Int32.ofInt a0), .int (Int32.ofInt a1), .int (Int32.ofInt a2)] S (ev_eI x) S' (ev_bl x) := by
  obtain ⟨d, rfl⟩ : ∃ e, d = e + 1 := ⟨d - 1, by omega⟩
  refine ev_ref_of (P := ev_bl) (lv := [(0, .ref 3), (1, .int (Int32.ofInt a0)), (2, .int (Int32.ofInt a1)), (3, .int (Int32.ofInt a2))]) (by decide +kernel) (by (try simp only [ev_sum, ev_nv_cat]); first | done | rfl) (by (try simp only [lv_args, ev_nv_cat]); first | done | rfl) ?_ x S' hJ
  unfold jm_98
  refine ev_r_aload_n (pc := 0) (k := 0) (v := .ref 3) trivial (by decide +kernel) (by rfl) ?_
  refine ev_r_getI (pc := 1) (y := 69) (ci := 7) (f := 10) (fin := 0) (by decide +kernel) (by decide +kernel) (by exact ev_ob_3) rfl ?_
  intro x1 hx1
  refine ev_r_iconst (pc := 4) (k := 1) (by decide +kernel) ?_
  refine ev_r_iadd (pc := 5) (by decide +kernel) ?_
  intro x2 hx2
  refine ev_r_if (pc := 6) (q := .lt) (o := 17) (t := 23) (c := x2 < 0) (by decide +kernel) (ev_k_lt hx2 ev_rng0) (by decide +kernel) ?_ ?_
  · intro c3
    refine ev_r_iconst (pc := 23) (k := 0) (by decide +kernel) ?_
    exact ev_r_ireturn (pc := 24) (x := 0) (v := Int32.ofInt 0) (ty := .boolean) (by decide : ev_bl 0) (by decide +kernel) (by decide +kernel) (ev_ret_bl (by decide : ev_bl 0)) rfl
  · intro c3
    refine ev_r_aload_n (pc := 9) (k := 0) (v := .ref 3) trivial (by decide +kernel) (by rfl) ?_
    refine ev_r_getI (pc := 10) (y := 69) (ci := 7) (f := 10) (fin := 0) (by decide +kernel) (by decide +kernel) (by exact ev_ob_3) rfl ?_
    intro x4 hx4
    refine ev_r_iconst (pc := 13) (k := 1) (by decide +kernel) ?_
    refine ev_r_iadd (pc := 14) (by decide +kernel) ?_
    intro x5 hx5
    refine ev_r_aload_n (pc := 15) (k := 0) (v := .ref 3) trivial (by decide +kernel) (by rfl) ?_
    refine ev_r_getC (pc := 16) (y := 30) (ci := 7) (f := 3) (fin := 1) (k' := 14) (by decide +kernel) (by decide +kernel) (by exact ev_ob_3) rfl rfl ?_
    refine ev_r_alenC (pc := 19) (kd := 3) (N := 152) (t := (.object "MendBench$Open", 17, 1)) (Or.inl rfl) (by decide +kernel) (by decide +kernel) ?_
    refine ev_r_icmp (pc := 20) (q := .lt) (o := 5) (t := 25) (c := x5 < 152) (by decide +kernel) (ev_k_lt hx5 (by decide)) (by decide +kernel) ?_ ?_
    · intro c6
      refine ev_r_aload_n (pc := 25) (k := 0) (v := .ref 3) trivial (by decide +kernel) (by rfl) ?_
      refine ev_r_dup (pc := 26) rfl (by decide +kernel) ?_
      refine ev_r_getI (pc := 27) (y := 69) (ci := 7) (f := 10) (fin := 0) (by decide +kernel) (by decide +kernel) (by exact ev_ob_3) rfl ?_
      intro x7 hx7
      refine ev_r_iconst (pc := 30) (k := 1) (by decide +kernel) ?_
      refine ev_r_iadd (pc := 31) (by decide +kernel) ?_
      intro x8 hx8
      refine ev_r_putI (pc := 32) (y := 69) (ci := 7) (f := 10) hx8 (by decide +kernel) (by decide +kernel) (by exact ev_ob_3) rfl rfl ?_
      intro s9
      refine ev_r_aload_n (pc := 35) (k := 0) (v := .ref 3) trivial (by decide +kernel) (by rfl) ?_
      refine ev_r_getC (pc := 36) (y := 30) (ci := 7) (f := 3) (fin := 1) (k' := 14) (by decide +kernel) (by decide +kernel) (by exact ev_ob_3) rfl rfl ?_
      refine ev_r_aload_n (pc := 39) (k := 0) (v := .ref 3) trivial (by decide +kernel) (by rfl) ?_
      refine ev_r_getI (pc := 40) (y := 69) (ci := 7) (f := 10) (fin := 0) (by decide +kernel) (by decide +kernel) (by exact ev_ob_3) rfl ?_
      intro x10 hx10
      refine ev_r_aald (pc := 43) (N := 152) (b := 17) (c := 1) (C := "MendBench$Open") hx10 (by decide +kernel) (by decide +kernel) ?_
      intro c11
      refine ev_r_astore (pc := 44) (k := 4) trivial (by decide +kernel) (by decide +kernel) rfl ?_
      refine ev_r_aload (pc := 46) (k := 4) (v := .ref ((17 + 1 * Int.toNat x10))) trivial (by decide +kernel) (by exact ev_lk_st1_self) ?_
      refine ev_r_iload_n (pc := 48) (k := 1) (v := Int32.ofInt a0) (by decide +kernel) (by exact (ev_l1 (by rfl) (by decide) (by decide))) ?_
      refine ev_r_putI (pc := 49) (y := 230) (ci := 4) (f := 0) ha0 (by decide +kernel) (by decide +kernel) (by exact (ev_el_14 c11)) rfl rfl ?_
      intro s13
      refine ev_r_aload (pc := 52) (k := 4) (v := .ref ((17 + 1 * Int.toNat x10))) trivial (by decide +kernel) (by exact ev_lk_st1_self) ?_
      refine ev_r_iload_n (pc := 54) (k := 2) (v := Int32.ofInt a1) (by decide +kernel) (by exact (ev_l1 (by rfl) (by decide) (by decide))) ?_
      refine ev_r_putI (pc := 55) (y := 233) (ci := 4) (f := 1) ha1 (by decide +kernel) (by decide +kernel) (by exact (ev_el_14 c11)) rfl rfl ?_
      intro s14
      refine ev_r_aload (pc := 58) (k := 4) (v := .ref ((17 + 1 * Int.toNat x10))) trivial (by decide +kernel) (by exact ev_lk_st1_self) ?_
      refine ev_r_aload_n (pc := 60) (k := 0) (v := .ref 3) trivial (by decide +kernel) (by exact (ev_l1 (by rfl) (by decide) (by decide))) ?_
      refine ev_r_getI (pc := 61) (y := 72) (ci := 7) (f := 11) (fin := 0) (by decide +kernel) (by decide +kernel) (by exact ev_ob_3) rfl ?_
      intro x15 hx15
      refine ev_r_putI (pc := 64) (y := 236) (ci := 4) (f := 2) hx15 (by decide +kernel) (by decide +kernel) (by exact (ev_el_14 c11)) rfl rfl ?_
      intro s16
      refine ev_r_aload (pc := 67) (k := 4) (v := .ref ((17 + 1 * Int.toNat x10))) trivial (by decide +kernel) (by exact ev_lk_st1_self) ?_
      refine ev_r_iload_n (pc := 69) (k := 3) (v := Int32.ofInt a2) (by decide +kernel) (by exact (ev_lk_st1 (by rfl) (by decide) rfl)) ?_
      refine ev_r_chk ?_
      intro c18
      refine ev_r_putI (pc := 70) (y := 114) (ci := 4) (f := 3) ha2 (by decide +kernel) (by decide +kernel) (by exact (ev_el_14 c11)) rfl (ev_fit_bl c18) ?_
      intro s17
      refine ev_r_aload (pc := 73) (k := 4) (v := .ref ((17 + 1 * Int.toNat x10))) trivial (by decide +kernel) (by exact ev_lk_st1_self) ?_
      refine ev_r_iconst (pc := 75) (k := -1) (by decide +kernel) ?_
      refine ev_r_putI (pc := 76) (y := 237) (ci := 4) (f := 4) (by decide) (by decide +kernel) (by decide +kernel) (by exact (ev_el_14 c11)) rfl rfl ?_
      intro s19
      refine ev_r_aload (pc := 79) (k := 4) (v := .ref ((17 + 1 * Int.toNat x10))) trivial (by decide +kernel) (by exact ev_lk_st1_self) ?_
      refine ev_r_iconst (pc := 81) (k := -1) (by decide +kernel) ?_
      refine ev_r_putI (pc := 82) (y := 240) (ci := 4) (f := 5) (by decide) (by decide +kernel) (by decide +kernel) (by exact (ev_el_14 c11)) rfl rfl ?_
      intro s20
      refine ev_r_aload (pc := 85) (k := 4) (v := .ref ((17 + 1 * Int.toNat x10))) trivial (by decide +kernel) (by exact ev_lk_st1_self) ?_
      refine ev_r_iconst (pc := 87) (k := -1) (by decide +kernel) ?_
      refine ev_r_putI (pc := 88) (y := 195) (ci := 4) (f := 6) (by decide) (by decide +kernel) (by decide +kernel) (by exact (ev_el_14 c11)) rfl rfl ?_
      intro s21
      refine ev_r_aload (pc := 91) (k := 4) (v := .ref ((17 + 1 * Int.toNat x10))) trivial (by decide +kernel) (by exact ev_lk_st1_self) ?_
      refine ev_r_iconst (pc := 93) (k := -1) (by decide +kernel) ?_
      refine ev_r_putI (pc := 94) (y := 189) (ci := 4) (f := 7) (by decide) (by decide +kernel) (by decide +kernel) (by exact (ev_el_14 c11)) rfl rfl ?_
      intro s22
      refine ev_r_aload (pc := 97) (k := 4) (v := .ref ((17 + 1 * Int.toNat x10))) trivial (by decide +kernel) (by exact ev_lk_st1_self) ?_
      refine ev_r_iconst (pc := 99) (k := -1) (by decide +kernel) ?_
      refine ev_r_putI (pc := 100) (y := 198) (ci := 4) (f := 8) (by decide) (by decide +kernel) (by decide +kernel) (by exact (ev_el_14 c11)) rfl rfl ?_
      intro s23
      refine ev_r_aload_n (pc := 103) (k := 0) (v := .ref 3) trivial (by decide +kernel) (by exact (ev_l1 (by rfl) (by decide) (by decide))) ?_
      refine ev_r_iconst (pc := 104) (k := 0) (by decide +kernel) ?_
      refine ev_r_putI (pc := 105) (y := 165) (ci := 7) (f := 13) (by decide) (by decide +kernel) (by decide +kernel) (by exact ev_ob_3) rfl (ev_fit_bl (by decide : ev_bl 0)) ?_
      intro s24
      refine ev_r_iconst (pc := 108) (k := 1) (by decide +kernel) ?_
      exact ev_r_ireturn (pc := 109) (x := 1) (v := Int32.ofInt 1) (ty := .boolean) (by decide : ev_bl 1) (by decide +kernel) (by decide +kernel) (ev_ret_bl (by decide : ev_bl 1)) rfl
    · intro c6
      refine ev_r_iconst (pc := 23) (k := 0) (by decide +kernel) ?_
      exact ev_r_ireturn (pc := 24) (x := 0) (v := Int32.ofInt 0) (ty := .boolean) (by decide : ev_bl 0) (by decide +kernel) (by decide +kernel) (ev_ret_bl (by decide : ev_bl 0)) rfl
/-- MendBench$Reader.endRow(LMendBench$Open;)Z -/
def jm_99 (Q : Nat) (a0 : Nat) (S : ev_St) : Option ((Int) × ev_St) := ev_b (S.2.2.1 3 9) fun r1 => ev_if (r1 ≠ 0) (ev_bd (jm_58 Q ((r1 - 1)) 15 0 0 S) fun x4 s3 => ev_b (s3.2.2.1 3 9) fun r5 => ev_if (r5 ≠ 0) (ev_bd (jm_59 Q ((r5 - 1)) x4 s3) fun x8 s7 => if x8 ≠ 0 then (ev_b (s7.2.2.1 3 9) fun r10 => ev_if (r10 ≠ 0) (ev_if (a0 ≠ 0) (ev_b (s7.1 ((a0 - 1)) 6) fun x13 => ev_if ((0 : Int) ≤ x4 ∧ x4 < (ev_aln (((r10 - 1) + 4)) : Int)) (ev_b (ev_pI s7 (((r10 - 1) + 4)) (Int.toNat x4) x13) fun s14 => ev_b (s14.2.2.1 3 9) fun r15 => ev_if (a0 ≠ 0) (ev_b (s14.1 ((a0 - 1)) 5) fun x17 => ev_if (r15 ≠ 0) (ev_bd (jm_59 Q ((r15 - 1)) x17 s14) fun x20 s19 => ev_jn (fun  (s25 : ev_St) => ev_if (a0 ≠ 0) (ev_b (ev_pI s25 ((a0 - 1)) 5 x4) fun s27 => ev_if (a0 ≠ 0) (ev_b (ev_pI s27 ((a0 - 1)) 6 ((-1))) fun s29 => ev_if (a0 ≠ 0) (ev_b (ev_pI s29 ((a0 - 1)) 7 ((-1))) fun s31 => ev_if (a0 ≠ 0) (ev_b (ev_pI s31 ((a0 - 1)) 8 ((-1))) fun s33 => ev_b (ev_pI s33 3 13 0) fun s34 => some (1, s34)))))) fun K73 => if x20 = 0 then (ev_if (a0 ≠ 0) (ev_b (ev_pI s19 ((a0 - 1)) 4 x4) fun s37 => K73  s37)) else (ev_b (s19.2.2.1 3 9) fun r38 => ev_if (r38 ≠ 0) (ev_if (a0 ≠ 0) (ev_b (s19.1 ((a0 - 1)) 5) fun x41 => ev_if ((0 : Int) ≤ x41 ∧ x41 < (ev_aln (((r38 - 1) + 5)) : Int)) (ev_b (ev_pI s19 (((r38 - 1) + 5)) (Int.toNat x41) x4) fun s42 => K73  s42)))))))))) else (some (0, s7))))
theorem jt_99 (d : Nat) (hd : 2 ≤ d) (Q : Nat) (a0 : Nat) (ha0 : a0 = 0 ∨ ev_isOb (a0 - 1) 4 = true) (S : ev_St) (x : Int) (S' : ev_St) (hJ : jm_99 Q a0 S = some (x, S')) : ev_Ref d 99 [.ref 3, ev_nv a0] S (ev_eI x) S' (ev_bl x) := by
  obtain ⟨d, rfl⟩ : ∃ e, d = e + 1 := ⟨d - 1, by omega⟩
  refine ev_ref_of (P := ev_bl) (lv := [(0, .ref 3), (1, ev_nv a0)]) (by decide +kernel) (by (try simp only [ev_sum, ev_nv_cat]); first | done | rfl) (by (try simp only [lv_args, ev_nv_cat]); first | done | rfl) ?_ x S' hJ
  unfold jm_99
  refine ev_r_aload_n (pc := 0) (k := 0) (v := .ref 3) trivial (by decide +kernel) (by rfl) ?_
  refine ev_r_getR (pc := 1) (y := 55) (ci := 7) (f := 9) (fin := 0) (t := 5) (by decide +kernel) (by decide +kernel) (by exact ev_ob_3) rfl rfl ?_
  intro r1 hr1
  have hr1 : r1 = 0 ∨ ev_isOb (r1 - 1) 5 = true := hr1
  refine ev_r_bipush (pc := 4) (k := 15) (by decide +kernel) (by decide +kernel) ?_
  refine ev_r_iconst (pc := 6) (k := 0) (by decide +kernel) ?_
  refine ev_r_iconst (pc := 7) (k := 0) (by decide +kernel) ?_
  refine ev_r_chk ?_
  intro c2
  refine ev_r_dr (r := r1) (fun v => [.int (Int32.ofInt 0), .int (Int32.ofInt 0), .int (Int32.ofInt 15), v]) c2 ?_
  refine ev_r_virt (pc := 8) (y := 168) (mi := 58) (na := 3) (k := (r1 - 1)) (as := [.int (Int32.ofInt 15), .int (Int32.ofInt 0), .int (Int32.ofInt 0)]) (rest := []) (encc := ev_oI) (Q := ev_rng) (fun x S1 h => jt_58 d (by omega) Q ((r1 - 1)) 15 0 0 (hr1.resolve_left c2) (by decide) (by decide) (by decide) S x S1 h) (by exact (hr1.resolve_left c2)) (by decide +kernel) (by decide +kernel) (by decide +kernel) (by decide +kernel) rfl (by (try simp only [ev_sum, ev_nv_cat]); first | done | rfl) ?_
  intro x4 s3 hx4
  show ev_w _ _ _ _ _ [.int (Int32.ofInt x4)] _ _ _ _
  refine ev_r_istore_n (pc := 11) (k := 2) (by decide +kernel) (by decide +kernel) rfl ?_
  refine ev_r_aload_n (pc := 12) (k := 0) (v := .ref 3) trivial (by decide +kernel) (by exact (ev_l1 (by rfl) (by decide) (by decide))) ?_
  refine ev_r_getR (pc := 13) (y := 55) (ci := 7) (f := 9) (fin := 0) (t := 5) (by decide +kernel) (by decide +kernel) (by exact ev_ob_3) rfl rfl ?_
  intro r5 hr5
  have hr5 : r5 = 0 ∨ ev_isOb (r5 - 1) 5 = true := hr5
  refine ev_r_iload_n (pc := 16) (k := 2) (v := Int32.ofInt x4) (by decide +kernel) (by exact ev_lk_st1_self) ?_
  refine ev_r_chk ?_
  intro c6
  refine ev_r_dr (r := r5) (fun v => [.int (Int32.ofInt x4), v]) c6 ?_
  refine ev_r_virt (pc := 17) (y := 179) (mi := 59) (na := 1) (k := (r5 - 1)) (as := [.int (Int32.ofInt x4)]) (rest := []) (encc := ev_oI) (Q := ev_bl) (fun x S1 h => jt_59 d (by omega) Q ((r5 - 1)) x4 (hr5.resolve_left c6) hx4 s3 x S1 h) (by exact (hr5.resolve_left c6)) (by decide +kernel) (by decide +kernel) (by decide +kernel) (by decide +kernel) rfl (by (try simp only [ev_sum, ev_nv_cat]); first | done | rfl) ?_
  intro x8 s7 hx8
  replace hx8 := ev_bl_rng hx8
  show ev_w _ _ _ _ _ [.int (Int32.ofInt x8)] _ _ _ _
  refine ev_r_if (pc := 20) (q := .ne) (o := 5) (t := 25) (c := x8 ≠ 0) (by decide +kernel) (ev_k_ne hx8 ev_rng0) (by decide +kernel) ?_ ?_
  · intro c9
    refine ev_r_aload_n (pc := 25) (k := 0) (v := .ref 3) trivial (by decide +kernel) (by exact (ev_l1 (by rfl) (by decide) (by decide))) ?_
    refine ev_r_getR (pc := 26) (y := 55) (ci := 7) (f := 9) (fin := 0) (t := 5) (by decide +kernel) (by decide +kernel) (by exact ev_ob_3) rfl rfl ?_
    intro r10 hr10
    have hr10 : r10 = 0 ∨ ev_isOb (r10 - 1) 5 = true := hr10
    refine ev_r_chk ?_
    intro c11
    refine ev_r_dr (r := r10) (fun v => [v]) c11 ?_
    refine ev_r_getC (pc := 29) (y := 201) (ci := 5) (f := 3) (fin := 2) (k' := ((r10 - 1) + 4)) (by decide +kernel) (by decide +kernel) (by exact (hr10.resolve_left c11)) rfl rfl ?_
    refine ev_r_iload_n (pc := 32) (k := 2) (v := Int32.ofInt x4) (by decide +kernel) (by exact ev_lk_st1_self) ?_
    refine ev_r_aload_n (pc := 33) (k := 1) (v := ev_nv a0) (ev_isR_nv _) (by decide +kernel) (by exact (ev_lk_st1 (by rfl) (by decide) (ev_nv_cat _))) ?_
    refine ev_r_chk ?_
    intro c12
    refine ev_r_dr (r := a0) (fun v => [v, .int (Int32.ofInt x4), .ref (((r10 - 1) + 4))]) c12 ?_
    refine ev_r_getI (pc := 34) (y := 195) (ci := 4) (f := 6) (fin := 0) (by decide +kernel) (by decide +kernel) (by exact (ha0.resolve_left c12)) rfl ?_
    intro x13 hx13
    refine ev_r_iast (pc := 37) hx13 hx4 (by decide +kernel) (by exact (ev_fo_5_3 (hr10.resolve_left c11))) ?_
    intro s14
    refine ev_r_aload_n (pc := 38) (k := 0) (v := .ref 3) trivial (by decide +kernel) (by exact (ev_l1 (by rfl) (by decide) (by decide))) ?_
    refine ev_r_getR (pc := 39) (y := 55) (ci := 7) (f := 9) (fin := 0) (t := 5) (by decide +kernel) (by decide +kernel) (by exact ev_ob_3) rfl rfl ?_
    intro r15 hr15
    have hr15 : r15 = 0 ∨ ev_isOb (r15 - 1) 5 = true := hr15
    refine ev_r_aload_n (pc := 42) (k := 1) (v := ev_nv a0) (ev_isR_nv _) (by decide +kernel) (by exact (ev_lk_st1 (by rfl) (by decide) (ev_nv_cat _))) ?_
    refine ev_r_chk ?_
    intro c16
    refine ev_r_dr (r := a0) (fun v => [v, ev_nv r15]) c16 ?_
    refine ev_r_getI (pc := 43) (y := 240) (ci := 4) (f := 5) (fin := 0) (by decide +kernel) (by decide +kernel) (by exact (ha0.resolve_left c16)) rfl ?_
    intro x17 hx17
    refine ev_r_chk ?_
    intro c18
    refine ev_r_dr (r := r15) (fun v => [.int (Int32.ofInt x17), v]) c18 ?_
    refine ev_r_virt (pc := 46) (y := 179) (mi := 59) (na := 1) (k := (r15 - 1)) (as := [.int (Int32.ofInt x17)]) (rest := []) (encc := ev_oI) (Q := ev_bl) (fun x S1 h => jt_59 d (by omega) Q ((r15 - 1)) x17 (hr15.resolve_left c18) hx17 s14 x S1 h) (by exact (hr15.resolve_left c18)) (by decide +kernel) (by decide +kernel) (by decide +kernel) (by decide +kernel) rfl (by (try simp only [ev_sum, ev_nv_cat]); first | done | rfl) ?_
    intro x20 s19 hx20
    replace hx20 := ev_bl_rng hx20
    show ev_w _ _ _ _ _ [.int (Int32.ofInt x20)] _ _ _ _
    refine ev_r_jn (Q := fun K => ∀ (s25 : ev_St) (w21 : List (Nat × Value)), ev_lk w21 0 = some (.ref 3) → ev_lk w21 1 = some (ev_nv a0) → ev_lk w21 2 = some (.int (Int32.ofInt x4)) → ev_w none (ev_Mof 99) d 73 w21 [] s25 (K  s25) ev_eI ev_bl) ?_ ?_
    · intro  s25 w21 e22 e23 e24
      refine ev_r_aload_n (pc := 73) (k := 1) (v := ev_nv a0) (ev_isR_nv _) (by decide +kernel) (by exact e23) ?_
      refine ev_r_iload_n (pc := 74) (k := 2) (v := Int32.ofInt x4) (by decide +kernel) (by exact e24) ?_
      refine ev_r_chk ?_
      intro c26
      refine ev_r_dr (r := a0) (fun v => [.int (Int32.ofInt x4), v]) c26 ?_
      refine ev_r_putI (pc := 75) (y := 240) (ci := 4) (f := 5) hx4 (by decide +kernel) (by decide +kernel) (by exact (ha0.resolve_left c26)) rfl rfl ?_
      intro s27
      refine ev_r_aload_n (pc := 78) (k := 1) (v := ev_nv a0) (ev_isR_nv _) (by decide +kernel) (by exact e23) ?_
      refine ev_r_iconst (pc := 79) (k := -1) (by decide +kernel) ?_
      refine ev_r_chk ?_
      intro c28
      refine ev_r_dr (r := a0) (fun v => [.int (Int32.ofInt ((-1))), v]) c28 ?_
      refine ev_r_putI (pc := 80) (y := 195) (ci := 4) (f := 6) (by decide) (by decide +kernel) (by decide +kernel) (by exact (ha0.resolve_left c28)) rfl rfl ?_
      intro s29
      refine ev_r_aload_n (pc := 83) (k := 1) (v := ev_nv a0) (ev_isR_nv _) (by decide +kernel) (by exact e23) ?_
      refine ev_r_iconst (pc := 84) (k := -1) (by decide +kernel) ?_
      refine ev_r_chk ?_
      intro c30
      refine ev_r_dr (r := a0) (fun v => [.int (Int32.ofInt ((-1))), v]) c30 ?_
      refine ev_r_putI (pc := 85) (y := 189) (ci := 4) (f := 7) (by decide) (by decide +kernel) (by decide +kernel) (by exact (ha0.resolve_left c30)) rfl rfl ?_
      intro s31
      refine ev_r_aload_n (pc := 88) (k := 1) (v := ev_nv a0) (ev_isR_nv _) (by decide +kernel) (by exact e23) ?_
      refine ev_r_iconst (pc := 89) (k := -1) (by decide +kernel) ?_
      refine ev_r_chk ?_
      intro c32
      refine ev_r_dr (r := a0) (fun v => [.int (Int32.ofInt ((-1))), v]) c32 ?_
      refine ev_r_putI (pc := 90) (y := 198) (ci := 4) (f := 8) (by decide) (by decide +kernel) (by decide +kernel) (by exact (ha0.resolve_left c32)) rfl rfl ?_
      intro s33
      refine ev_r_aload_n (pc := 93) (k := 0) (v := .ref 3) trivial (by decide +kernel) (by exact e22) ?_
      refine ev_r_iconst (pc := 94) (k := 0) (by decide +kernel) ?_
      refine ev_r_putI (pc := 95) (y := 165) (ci := 7) (f := 13) (by decide) (by decide +kernel) (by decide +kernel) (by exact ev_ob_3) rfl (ev_fit_bl (by decide : ev_bl 0)) ?_
      intro s34
      refine ev_r_iconst (pc := 98) (k := 1) (by decide +kernel) ?_
      exact ev_r_ireturn (pc := 99) (x := 1) (v := Int32.ofInt 1) (ty := .boolean) (by decide : ev_bl 1) (by decide +kernel) (by decide +kernel) (ev_ret_bl (by decide : ev_bl 1)) rfl
    · intro K73 hK73
      refine ev_r_if (pc := 49) (q := .eq) (o := 19) (t := 68) (c := x20 = 0) (by decide +kernel) (ev_k_eq hx20 ev_rng0) (by decide +kernel) ?_ ?_
      · intro c35
        refine ev_r_aload_n (pc := 68) (k := 1) (v := ev_nv a0) (ev_isR_nv _) (by decide +kernel) (by exact (ev_lk_st1 (by rfl) (by decide) (ev_nv_cat _))) ?_
        refine ev_r_iload_n (pc := 69) (k := 2) (v := Int32.ofInt x4) (by decide +kernel) (by exact ev_lk_st1_self) ?_
        refine ev_r_chk ?_
        intro c36
        refine ev_r_dr (r := a0) (fun v => [.int (Int32.ofInt x4), v]) c36 ?_
        refine ev_r_putI (pc := 70) (y := 237) (ci := 4) (f := 4) hx4 (by decide +kernel) (by decide +kernel) (by exact (ha0.resolve_left c36)) rfl rfl ?_
        intro s37
        exact hK73  s37 _ (by exact (ev_l1 (by rfl) (by decide) (by decide))) (by exact (ev_lk_st1 (by rfl) (by decide) (ev_nv_cat _))) (by exact ev_lk_st1_self)
      · intro c35
        refine ev_r_aload_n (pc := 52) (k := 0) (v := .ref 3) trivial (by decide +kernel) (by exact (ev_l1 (by rfl) (by decide) (by decide))) ?_
        refine ev_r_getR (pc := 53) (y := 55) (ci := 7) (f := 9) (fin := 0) (t := 5) (by decide +kernel) (by decide +kernel) (by exact ev_ob_3) rfl rfl ?_
        intro r38 hr38
        have hr38 : r38 = 0 ∨ ev_isOb (r38 - 1) 5 = true := hr38
        refine ev_r_chk ?_
        intro c39
        refine ev_r_dr (r := r38) (fun v => [v]) c39 ?_
        refine ev_r_getC (pc := 56) (y := 192) (ci := 5) (f := 4) (fin := 2) (k' := ((r38 - 1) + 5)) (by decide +kernel) (by decide +kernel) (by exact (hr38.resolve_left c39)) rfl rfl ?_
        refine ev_r_aload_n (pc := 59) (k := 1) (v := ev_nv a0) (ev_isR_nv _) (by decide +kernel) (by exact (ev_lk_st1 (by rfl) (by decide) (ev_nv_cat _))) ?_
        refine ev_r_chk ?_
        intro c40
        refine ev_r_dr (r := a0) (fun v => [v, .ref (((r38 - 1) + 5))]) c40 ?_
        refine ev_r_getI (pc := 60) (y := 240) (ci := 4) (f := 5) (fin := 0) (by decide +kernel) (by decide +kernel) (by exact (ha0.resolve_left c40)) rfl ?_
        intro x41 hx41
        refine ev_r_iload_n (pc := 63) (k := 2) (v := Int32.ofInt x4) (by decide +kernel) (by exact ev_lk_st1_self) ?_
        refine ev_r_iast (pc := 64) hx4 hx41 (by decide +kernel) (by exact (ev_fo_5_4 (hr38.resolve_left c39))) ?_
        intro s42
        refine ev_r_goto (pc := 65) (o := 8) (t := 73) (by decide +kernel) (by decide +kernel) ?_
        exact hK73  s42 _ (by exact (ev_l1 (by rfl) (by decide) (by decide))) (by exact (ev_lk_st1 (by rfl) (by decide) (ev_nv_cat _))) (by exact ev_lk_st1_self)
  · intro c9
    refine ev_r_iconst (pc := 23) (k := 0) (by decide +kernel) ?_
    exact ev_r_ireturn (pc := 24) (x := 0) (v := Int32.ofInt 0) (ty := .boolean) (by decide : ev_bl 0) (by decide +kernel) (by decide +kernel) (ev_ret_bl (by decide : ev_bl 0)) rfl
/-- MendBench$Reader.addItem(I)Z -/
def jm_91 (Q : Nat) (a0 : Int) (S : ev_St) : Option ((Int) × ev_St) := ev_b (S.2.2.1 3 9) fun r1 => ev_if (r1 ≠ 0) (ev_bd (jm_59 Q ((r1 - 1)) a0 S) fun x4 s3 => if x4 = 0 then (some (0, s3)) else (ev_b (s3.1 3 10) fun x6 => if x6 < 0 then (some (0, s3)) else (ev_b (s3.1 3 10) fun x8 => if x8 < 152 then (ev_b (s3.1 3 10) fun x10 => ev_if ((0 : Int) ≤ x10 ∧ x10 < (152 : Int)) (ev_b (17 + 1 * Int.toNat x10) fun _ => ev_b (s3.2.2.1 3 9) fun r13 => ev_b (s3.1 ((17 + 1 * Int.toNat x10)) 7) fun x14 => ev_if (r13 ≠ 0) (ev_bd (jm_59 Q ((r13 - 1)) x14 s3) fun x17 s16 => ev_jn (fun (r18 : Nat) (s22 : ev_St) => ev_b (s22.1 r18 7) fun x23 => ev_b (ev_pI s22 r18 8 x23) fun s24 => ev_b (ev_pI s24 r18 7 a0) fun s25 => some (1, s25)) fun K77 => if x17 = 0 then (ev_b (ev_pI s16 ((17 + 1 * Int.toNat x10)) 6 a0) fun s27 => K77 ((17 + 1 * Int.toNat x10)) s27) else (ev_b (s16.2.2.1 3 9) fun r28 => ev_if (r28 ≠ 0) (ev_b (s16.1 ((17 + 1 * Int.toNat x10)) 7) fun x30 => ev_if ((0 : Int) ≤ x30 ∧ x30 < (ev_aln (((r28 - 1) + 5)) : Int)) (ev_b (ev_pI s16 (((r28 - 1) + 5)) (Int.toNat x30) a0) fun s31 => K77 ((17 + 1 * Int.toNat x10)) s31)))))) else (some (0, s3)))))
theorem jt_91 (d : Nat) (hd : 2 ≤ d) (Q : Nat) (a0 : Int) (ha0 : ev_rng a0) (S : ev_St) (x : Int) (S' : ev_St) (hJ : jm_91 Q a0 S = some (x, S')) : ev_Ref d 91 [.ref 3, .int (Int32.ofInt a0)] S (ev_eI x) S' (ev_bl x) := by
  obtain ⟨d, rfl⟩ : ∃ e, d = e + 1 := ⟨d - 1, by omega⟩
  refine ev_ref_of (P := ev_bl) (lv := [(0, .ref 3), (1, .int (Int32.ofInt a0))]) (by decide +kernel) (by (try simp only [ev_sum, ev_nv_cat]); first | done | rfl) (by (try simp only [lv_args, ev_nv_cat]); first | done | rfl) ?_ x S' hJ
  unfold jm_91
  refine ev_r_aload_n (pc := 0) (k := 0) (v := .ref 3) trivial (by decide +kernel) (by rfl) ?_
  refine ev_r_getR (pc := 1) (y := 55) (ci := 7) (f := 9) (fin := 0) (t := 5) (by decide +kernel) (by decide +kernel) (by exact ev_ob_3) rfl rfl ?_
  intro r1 hr1
  have hr1 : r1 = 0 ∨ ev_isOb (r1 - 1) 5 = true := hr1
  refine ev_r_iload_n (pc := 4) (k := 1) (v := Int32.ofInt a0) (by decide +kernel) (by rfl) ?_
  refine ev_r_chk ?_
  intro c2
  refine ev_r_dr (r := r1) (fun v => [.int (Int32.ofInt a0), v]) c2 ?_
  refine ev_r_virt (pc := 5) (y := 179) (mi := 59) (na := 1) (k := (r1 - 1)) (as := [.int (Int32.ofInt a0)]) (rest := []) (encc := ev_oI) (Q := ev_bl) (fun x S1 h => jt_59 d (by omega) Q ((r1 - 1)) a0 (hr1.resolve_left c2) ha0 S x S1 h) (by exact (hr1.resolve_left c2)) (by decide +kernel) (by decide +kernel) (by decide +kernel) (by decide +kernel) rfl (by (try simp only [ev_sum, ev_nv_cat]); first | done | rfl) ?_
  intro x4 s3 hx4
  replace hx4 := ev_bl_rng hx4
  show ev_w _ _ _ _ _ [.int (Int32.ofInt x4)] _ _ _ _
  refine ev_r_if (pc := 8) (q := .eq) (o := 22) (t := 30) (c := x4 = 0) (by decide +kernel) (ev_k_eq hx4 ev_rng0) (by decide +kernel) ?_ ?_
  · intro c5
    refine ev_r_iconst (pc := 30) (k := 0) (by decide +kernel) ?_
    exact ev_r_ireturn (pc := 31) (x := 0) (v := Int32.ofInt 0) (ty := .boolean) (by decide : ev_bl 0) (by decide +kernel) (by decide +kernel) (ev_ret_bl (by decide : ev_bl 0)) rfl
  · intro c5
    refine ev_r_aload_n (pc := 11) (k := 0) (v := .ref 3) trivial (by decide +kernel) (by rfl) ?_
    refine ev_r_getI (pc := 12) (y := 69) (ci := 7) (f := 10) (fin := 0) (by decide +kernel) (by decide +kernel) (by exact ev_ob_3) rfl ?_
    intro x6 hx6
    refine ev_r_if (pc := 15) (q := .lt) (o := 15) (t := 30) (c := x6 < 0) (by decide +kernel) (ev_k_lt hx6 ev_rng0) (by decide +kernel) ?_ ?_
    · intro c7
      refine ev_r_iconst (pc := 30) (k := 0) (by decide +kernel) ?_
      exact ev_r_ireturn (pc := 31) (x := 0) (v := Int32.ofInt 0) (ty := .boolean) (by decide : ev_bl 0) (by decide +kernel) (by decide +kernel) (ev_ret_bl (by decide : ev_bl 0)) rfl
    · intro c7
      refine ev_r_aload_n (pc := 18) (k := 0) (v := .ref 3) trivial (by decide +kernel) (by rfl) ?_
      refine ev_r_getI (pc := 19) (y := 69) (ci := 7) (f := 10) (fin := 0) (by decide +kernel) (by decide +kernel) (by exact ev_ob_3) rfl ?_
      intro x8 hx8
      refine ev_r_aload_n (pc := 22) (k := 0) (v := .ref 3) trivial (by decide +kernel) (by rfl) ?_
      refine ev_r_getC (pc := 23) (y := 30) (ci := 7) (f := 3) (fin := 1) (k' := 14) (by decide +kernel) (by decide +kernel) (by exact ev_ob_3) rfl rfl ?_
      refine ev_r_alenC (pc := 26) (kd := 3) (N := 152) (t := (.object "MendBench$Open", 17, 1)) (Or.inl rfl) (by decide +kernel) (by decide +kernel) ?_
      refine ev_r_icmp (pc := 27) (q := .lt) (o := 5) (t := 32) (c := x8 < 152) (by decide +kernel) (ev_k_lt hx8 (by decide)) (by decide +kernel) ?_ ?_
      · intro c9
        refine ev_r_aload_n (pc := 32) (k := 0) (v := .ref 3) trivial (by decide +kernel) (by rfl) ?_
        refine ev_r_getC (pc := 33) (y := 30) (ci := 7) (f := 3) (fin := 1) (k' := 14) (by decide +kernel) (by decide +kernel) (by exact ev_ob_3) rfl rfl ?_
        refine ev_r_aload_n (pc := 36) (k := 0) (v := .ref 3) trivial (by decide +kernel) (by rfl) ?_
        refine ev_r_getI (pc := 37) (y := 69) (ci := 7) (f := 10) (fin := 0) (by decide +kernel) (by decide +kernel) (by exact ev_ob_3) rfl ?_
        intro x10 hx10
        refine ev_r_aald (pc := 40) (N := 152) (b := 17) (c := 1) (C := "MendBench$Open") hx10 (by decide +kernel) (by decide +kernel) ?_
        intro c11
        refine ev_r_astore_n (pc := 41) (k := 2) trivial (by decide +kernel) (by decide +kernel) rfl ?_
        refine ev_r_aload_n (pc := 42) (k := 0) (v := .ref 3) trivial (by decide +kernel) (by exact (ev_l1 (by rfl) (by decide) (by decide))) ?_
        refine ev_r_getR (pc := 43) (y := 55) (ci := 7) (f := 9) (fin := 0) (t := 5) (by decide +kernel) (by decide +kernel) (by exact ev_ob_3) rfl rfl ?_
        intro r13 hr13
        have hr13 : r13 = 0 ∨ ev_isOb (r13 - 1) 5 = true := hr13
        refine ev_r_aload_n (pc := 46) (k := 2) (v := .ref ((17 + 1 * Int.toNat x10))) trivial (by decide +kernel) (by exact ev_lk_st1_self) ?_
        refine ev_r_getI (pc := 47) (y := 189) (ci := 4) (f := 7) (fin := 0) (by decide +kernel) (by decide +kernel) (by exact (ev_el_14 c11)) rfl ?_
        intro x14 hx14
        refine ev_r_chk ?_
        intro c15
        refine ev_r_dr (r := r13) (fun v => [.int (Int32.ofInt x14), v]) c15 ?_
        refine ev_r_virt (pc := 50) (y := 179) (mi := 59) (na := 1) (k := (r13 - 1)) (as := [.int (Int32.ofInt x14)]) (rest := []) (encc := ev_oI) (Q := ev_bl) (fun x S1 h => jt_59 d (by omega) Q ((r13 - 1)) x14 (hr13.resolve_left c15) hx14 s3 x S1 h) (by exact (hr13.resolve_left c15)) (by decide +kernel) (by decide +kernel) (by decide +kernel) (by decide +kernel) rfl (by (try simp only [ev_sum, ev_nv_cat]); first | done | rfl) ?_
        intro x17 s16 hx17
        replace hx17 := ev_bl_rng hx17
        show ev_w _ _ _ _ _ [.int (Int32.ofInt x17)] _ _ _ _
        refine ev_r_jn (Q := fun K => ∀ (r18 : Nat) (hr18 : ev_isOb r18 4 = true), ∀ (s22 : ev_St) (w19 : List (Nat × Value)), ev_lk w19 1 = some (.int (Int32.ofInt a0)) → ev_lk w19 2 = some (.ref r18) → ev_w none (ev_Mof 91) d 77 w19 [] s22 (K r18 s22) ev_eI ev_bl) ?_ ?_
        · intro r18 hr18 s22 w19 e20 e21
          refine ev_r_aload_n (pc := 77) (k := 2) (v := .ref r18) trivial (by decide +kernel) (by exact e21) ?_
          refine ev_r_aload_n (pc := 78) (k := 2) (v := .ref r18) trivial (by decide +kernel) (by exact e21) ?_
          refine ev_r_getI (pc := 79) (y := 189) (ci := 4) (f := 7) (fin := 0) (by decide +kernel) (by decide +kernel) (by exact hr18) rfl ?_
          intro x23 hx23
          refine ev_r_putI (pc := 82) (y := 198) (ci := 4) (f := 8) hx23 (by decide +kernel) (by decide +kernel) (by exact hr18) rfl rfl ?_
          intro s24
          refine ev_r_aload_n (pc := 85) (k := 2) (v := .ref r18) trivial (by decide +kernel) (by exact e21) ?_
          refine ev_r_iload_n (pc := 86) (k := 1) (v := Int32.ofInt a0) (by decide +kernel) (by exact e20) ?_
          refine ev_r_putI (pc := 87) (y := 189) (ci := 4) (f := 7) ha0 (by decide +kernel) (by decide +kernel) (by exact hr18) rfl rfl ?_
          intro s25
          refine ev_r_iconst (pc := 90) (k := 1) (by decide +kernel) ?_
          exact ev_r_ireturn (pc := 91) (x := 1) (v := Int32.ofInt 1) (ty := .boolean) (by decide : ev_bl 1) (by decide +kernel) (by decide +kernel) (ev_ret_bl (by decide : ev_bl 1)) rfl
        · intro K77 hK77
          refine ev_r_if (pc := 53) (q := .eq) (o := 19) (t := 72) (c := x17 = 0) (by decide +kernel) (ev_k_eq hx17 ev_rng0) (by decide +kernel) ?_ ?_
          · intro c26
            refine ev_r_aload_n (pc := 72) (k := 2) (v := .ref ((17 + 1 * Int.toNat x10))) trivial (by decide +kernel) (by exact ev_lk_st1_self) ?_
            refine ev_r_iload_n (pc := 73) (k := 1) (v := Int32.ofInt a0) (by decide +kernel) (by exact (ev_lk_st1 (by rfl) (by decide) rfl)) ?_
            refine ev_r_putI (pc := 74) (y := 195) (ci := 4) (f := 6) ha0 (by decide +kernel) (by decide +kernel) (by exact (ev_el_14 c11)) rfl rfl ?_
            intro s27
            exact hK77 ((17 + 1 * Int.toNat x10)) (ev_el_14 c11) s27 _ (by exact (ev_lk_st1 (by rfl) (by decide) rfl)) (by exact ev_lk_st1_self)
          · intro c26
            refine ev_r_aload_n (pc := 56) (k := 0) (v := .ref 3) trivial (by decide +kernel) (by exact (ev_l1 (by rfl) (by decide) (by decide))) ?_
            refine ev_r_getR (pc := 57) (y := 55) (ci := 7) (f := 9) (fin := 0) (t := 5) (by decide +kernel) (by decide +kernel) (by exact ev_ob_3) rfl rfl ?_
            intro r28 hr28
            have hr28 : r28 = 0 ∨ ev_isOb (r28 - 1) 5 = true := hr28
            refine ev_r_chk ?_
            intro c29
            refine ev_r_dr (r := r28) (fun v => [v]) c29 ?_
            refine ev_r_getC (pc := 60) (y := 192) (ci := 5) (f := 4) (fin := 2) (k' := ((r28 - 1) + 5)) (by decide +kernel) (by decide +kernel) (by exact (hr28.resolve_left c29)) rfl rfl ?_
            refine ev_r_aload_n (pc := 63) (k := 2) (v := .ref ((17 + 1 * Int.toNat x10))) trivial (by decide +kernel) (by exact ev_lk_st1_self) ?_
            refine ev_r_getI (pc := 64) (y := 189) (ci := 4) (f := 7) (fin := 0) (by decide +kernel) (by decide +kernel) (by exact (ev_el_14 c11)) rfl ?_
            intro x30 hx30
            refine ev_r_iload_n (pc := 67) (k := 1) (v := Int32.ofInt a0) (by decide +kernel) (by exact (ev_lk_st1 (by rfl) (by decide) rfl)) ?_
            refine ev_r_iast (pc := 68) ha0 hx30 (by decide +kernel) (by exact (ev_fo_5_4 (hr28.resolve_left c29))) ?_
            intro s31
            refine ev_r_goto (pc := 69) (o := 8) (t := 77) (by decide +kernel) (by decide +kernel) ?_
            exact hK77 ((17 + 1 * Int.toNat x10)) (ev_el_14 c11) s31 _ (by exact (ev_lk_st1 (by rfl) (by decide) rfl)) (by exact ev_lk_st1_self)
      · intro c9
        refine ev_r_iconst (pc := 30) (k := 0) (by decide +kernel) ?_
        exact ev_r_ireturn (pc := 31) (x := 0) (v := Int32.ofInt 0) (ty := .boolean) (by decide : ev_bl 0) (by decide +kernel) (by decide +kernel) (ev_ret_bl (by decide : ev_bl 0)) rfl
/-- MendBench$Reader.end()Z -/
def jm_100 (Q : Nat)  (S : ev_St) : Option ((Int) × ev_St) := ev_b (S.1 3 10) fun x1 => if x1 < 0 then (some (0, S)) else (ev_b (S.1 3 10) fun x3 => if x3 < 152 then (ev_b (S.1 3 10) fun x5 => ev_if ((0 : Int) ≤ x5 ∧ x5 < (152 : Int)) (ev_b (17 + 1 * Int.toNat x5) fun _ => ev_bd (jm_99 Q (((17 + 1 * Int.toNat x5) + 1)) S) fun x9 s8 => ev_jn (fun (r10 : Nat) (x11 : Int) (s15 : ev_St) => ev_b (s15.2.2.1 3 9) fun r16 => ev_if (r16 ≠ 0) (ev_bd (jm_59 Q ((r16 - 1)) x11 s15) fun x19 s18 => if x19 ≠ 0 then (ev_b (s18.2.2.1 3 9) fun r21 => ev_if (r21 ≠ 0) (ev_b (s18.1 r10 4) fun x23 => ev_if ((0 : Int) ≤ x11 ∧ x11 < (ev_aln (((r21 - 1) + 4)) : Int)) (ev_b (ev_pI s18 (((r21 - 1) + 4)) (Int.toNat x11) x23) fun s24 => ev_b (s24.1 r10 0) fun x25 => ev_jn (fun (x26 : Int) (s31 : ev_St) => ev_jn (fun  (s36 : ev_St) => ev_b (s36.1 r10 2) fun x37 => ev_b (ev_pI s36 3 11 x37) fun s38 => ev_b (s38.1 3 10) fun x39 => ev_ck (x39 - 1) fun x40 => ev_b (ev_pI s38 3 10 x40) fun s41 => ev_b (ev_pI s41 3 13 1) fun s42 => ev_b (s42.1 3 10) fun x43 => if x43 < 0 then (some (1, s42)) else (ev_bd (jm_91 Q x11 s42) fun x46 s45 => if x46 = 0 then (some (0, s45)) else (some (1, s45)))) fun K143 => if x26 = 0 then (K143  s31) else (ev_b (s31.1 r10 1) fun x49 => if x49 < 0 then (K143  s31) else (ev_b (s31.1 r10 1) fun x51 => if 9 < x51 then (K143  s31) else (ev_b (s31.2.2.1 3 9) fun r53 => ev_if (r53 ≠ 0) (ev_b (s31.1 r10 1) fun x55 => ev_if ((0 : Int) ≤ x55 ∧ x55 < (ev_aln (((r53 - 1) + 10)) : Int)) (ev_b (ev_pI s31 (((r53 - 1) + 10)) (Int.toNat x55) x11) fun s56 => K143  s56)))))) fun K109 => ev_jn (fun  (s61 : ev_St) => K109 1 s61) fun K104 => if x25 = 18 then (K104  s24) else (ev_b (s24.1 r10 0) fun x63 => if x63 ≠ 16 then (K109 0 s24) else (K104  s24))))) else (some (0, s18)))) fun K59 => if x9 = 0 then (K59 ((17 + 1 * Int.toNat x5)) ((-1)) s8) else (ev_b (s8.2.2.1 3 9) fun r66 => ev_b (s8.1 ((17 + 1 * Int.toNat x5)) 0) fun x67 => ev_b (s8.1 ((17 + 1 * Int.toNat x5)) 1) fun x68 => ev_if (r66 ≠ 0) (ev_bd (jm_58 Q ((r66 - 1)) x67 x68 0 s8) fun x71 s70 => K59 ((17 + 1 * Int.toNat x5)) x71 s70)))) else (some (0, S)))
theorem jt_100 (d : Nat) (hd : 3 ≤ d) (Q : Nat)   (S : ev_St) (x : Int) (S' : ev_St) (hJ : jm_100 Q  S = some (x, S')) : ev_Ref d 100 [.ref 3] S (ev_eI x) S' (ev_bl x) := by
  obtain ⟨d, rfl⟩ : ∃ e, d = e + 1 := ⟨d - 1, by omega⟩
  refine ev_ref_of (P := ev_bl) (lv := [(0, .ref 3)]) (by decide +kernel) (by (try simp only [ev_sum, ev_nv_cat]); first | done | rfl) (by (try simp only [lv_args, ev_nv_cat]); first | done | rfl) ?_ x S' hJ
  unfold jm_100
  refine ev_r_aload_n (pc := 0) (k := 0) (v := .ref 3) trivial (by decide +kernel) (by rfl) ?_
  refine ev_r_getI (pc := 1) (y := 69) (ci := 7) (f := 10) (fin := 0) (by decide +kernel) (by decide +kernel) (by exact ev_ob_3) rfl ?_
  intro x1 hx1
  refine ev_r_if (pc := 4) (q := .lt) (o := 15) (t := 19) (c := x1 < 0) (by decide +kernel) (ev_k_lt hx1 ev_rng0) (by decide +kernel) ?_ ?_
  · intro c2
    refine ev_r_iconst (pc := 19) (k := 0) (by decide +kernel) ?_
    exact ev_r_ireturn (pc := 20) (x := 0) (v := Int32.ofInt 0) (ty := .boolean) (by decide : ev_bl 0) (by decide +kernel) (by decide +kernel) (ev_ret_bl (by decide : ev_bl 0)) rfl
  · intro c2
    refine ev_r_aload_n (pc := 7) (k := 0) (v := .ref 3) trivial (by decide +kernel) (by rfl) ?_
    refine ev_r_getI (pc := 8) (y := 69) (ci := 7) (f := 10) (fin := 0) (by decide +kernel) (by decide +kernel) (by exact ev_ob_3) rfl ?_
    intro x3 hx3
    refine ev_r_aload_n (pc := 11) (k := 0) (v := .ref 3) trivial (by decide +kernel) (by rfl) ?_
    refine ev_r_getC (pc := 12) (y := 30) (ci := 7) (f := 3) (fin := 1) (k' := 14) (by decide +kernel) (by decide +kernel) (by exact ev_ob_3) rfl rfl ?_
    refine ev_r_alenC (pc := 15) (kd := 3) (N := 152) (t := (.object "MendBench$Open", 17, 1)) (Or.inl rfl) (by decide +kernel) (by decide +kernel) ?_
    refine ev_r_icmp (pc := 16) (q := .lt) (o := 5) (t := 21) (c := x3 < 152) (by decide +kernel) (ev_k_lt hx3 (by decide)) (by decide +kernel) ?_ ?_
    · intro c4
      refine ev_r_aload_n (pc := 21) (k := 0) (v := .ref 3) trivial (by decide +kernel) (by rfl) ?_
      refine ev_r_getC (pc := 22) (y := 30) (ci := 7) (f := 3) (fin := 1) (k' := 14) (by decide +kernel) (by decide +kernel) (by exact ev_ob_3) rfl rfl ?_
      refine ev_r_aload_n (pc := 25) (k := 0) (v := .ref 3) trivial (by decide +kernel) (by rfl) ?_
      refine ev_r_getI (pc := 26) (y := 69) (ci := 7) (f := 10) (fin := 0) (by decide +kernel) (by decide +kernel) (by exact ev_ob_3) rfl ?_
      intro x5 hx5
      refine ev_r_aald (pc := 29) (N := 152) (b := 17) (c := 1) (C := "MendBench$Open") hx5 (by decide +kernel) (by decide +kernel) ?_
      intro c6
      refine ev_r_astore_n (pc := 30) (k := 1) trivial (by decide +kernel) (by decide +kernel) rfl ?_
      refine ev_r_aload_n (pc := 31) (k := 0) (v := .ref 3) trivial (by decide +kernel) (by exact (ev_lk_st1 (by rfl) (by decide) rfl)) ?_
      refine ev_r_aload_n (pc := 32) (k := 1) (v := .ref ((17 + 1 * Int.toNat x5))) trivial (by decide +kernel) (by exact ev_lk_st1_self) ?_
      refine ev_r_virt (pc := 33) (y := 243) (mi := 99) (na := 1) (k := 3) (as := [ev_nv (((17 + 1 * Int.toNat x5) + 1))]) (rest := []) (encc := ev_oI) (Q := ev_bl) (fun x S1 h => jt_99 d (by omega) Q (((17 + 1 * Int.toNat x5) + 1)) (by exact (Or.inr (ev_el_14 c6))) S x S1 h) (by exact ev_ob_3) (by decide +kernel) (by decide +kernel) (by decide +kernel) (by decide +kernel) rfl (by (try simp only [ev_sum, ev_nv_cat]); first | done | rfl) ?_
      intro x9 s8 hx9
      replace hx9 := ev_bl_rng hx9
      show ev_w _ _ _ _ _ [.int (Int32.ofInt x9)] _ _ _ _
      refine ev_r_jn (Q := fun K => ∀ (r10 : Nat) (hr10 : ev_isOb r10 4 = true), ∀ (x11 : Int) (hx11 : ev_rng x11), ∀ (s15 : ev_St) (w12 : List (Nat × Value)), ev_lk w12 0 = some (.ref 3) → ev_lk w12 1 = some (.ref r10) → ev_w none (ev_Mof 100) d 59 w12 [.int (Int32.ofInt x11)] s15 (K r10 x11 s15) ev_eI ev_bl) ?_ ?_
      · intro r10 hr10 x11 hx11 s15 w12 e13 e14
        refine ev_r_istore_n (pc := 59) (k := 2) (by decide +kernel) (by decide +kernel) rfl ?_
        refine ev_r_aload_n (pc := 60) (k := 0) (v := .ref 3) trivial (by decide +kernel) (by exact (ev_l1 e13 (by decide) (by decide))) ?_
        refine ev_r_getR (pc := 61) (y := 55) (ci := 7) (f := 9) (fin := 0) (t := 5) (by decide +kernel) (by decide +kernel) (by exact ev_ob_3) rfl rfl ?_
        intro r16 hr16
        have hr16 : r16 = 0 ∨ ev_isOb (r16 - 1) 5 = true := hr16
        refine ev_r_iload_n (pc := 64) (k := 2) (v := Int32.ofInt x11) (by decide +kernel) (by exact ev_lk_st1_self) ?_
        refine ev_r_chk ?_
        intro c17
        refine ev_r_dr (r := r16) (fun v => [.int (Int32.ofInt x11), v]) c17 ?_
        refine ev_r_virt (pc := 65) (y := 179) (mi := 59) (na := 1) (k := (r16 - 1)) (as := [.int (Int32.ofInt x11)]) (rest := []) (encc := ev_oI) (Q := ev_bl) (fun x S1 h => jt_59 d (by omega) Q ((r16 - 1)) x11 (hr16.resolve_left c17) hx11 s15 x S1 h) (by exact (hr16.resolve_left c17)) (by decide +kernel) (by decide +kernel) (by decide +kernel) (by decide +kernel) rfl (by (try simp only [ev_sum, ev_nv_cat]); first | done | rfl) ?_
        intro x19 s18 hx19
        replace hx19 := ev_bl_rng hx19
        show ev_w _ _ _ _ _ [.int (Int32.ofInt x19)] _ _ _ _
        refine ev_r_if (pc := 68) (q := .ne) (o := 5) (t := 73) (c := x19 ≠ 0) (by decide +kernel) (ev_k_ne hx19 ev_rng0) (by decide +kernel) ?_ ?_
        · intro c20
          refine ev_r_aload_n (pc := 73) (k := 0) (v := .ref 3) trivial (by decide +kernel) (by exact (ev_l1 e13 (by decide) (by decide))) ?_
          refine ev_r_getR (pc := 74) (y := 55) (ci := 7) (f := 9) (fin := 0) (t := 5) (by decide +kernel) (by decide +kernel) (by exact ev_ob_3) rfl rfl ?_
          intro r21 hr21
          have hr21 : r21 = 0 ∨ ev_isOb (r21 - 1) 5 = true := hr21
          refine ev_r_chk ?_
          intro c22
          refine ev_r_dr (r := r21) (fun v => [v]) c22 ?_
          refine ev_r_getC (pc := 77) (y := 201) (ci := 5) (f := 3) (fin := 2) (k' := ((r21 - 1) + 4)) (by decide +kernel) (by decide +kernel) (by exact (hr21.resolve_left c22)) rfl rfl ?_
          refine ev_r_iload_n (pc := 80) (k := 2) (v := Int32.ofInt x11) (by decide +kernel) (by exact ev_lk_st1_self) ?_
          refine ev_r_aload_n (pc := 81) (k := 1) (v := .ref r10) trivial (by decide +kernel) (by exact (ev_lk_st1 e14 (by decide) rfl)) ?_
          refine ev_r_getI (pc := 82) (y := 237) (ci := 4) (f := 4) (fin := 0) (by decide +kernel) (by decide +kernel) (by exact hr10) rfl ?_
          intro x23 hx23
          refine ev_r_iast (pc := 85) hx23 hx11 (by decide +kernel) (by exact (ev_fo_5_3 (hr21.resolve_left c22))) ?_
          intro s24
          refine ev_r_aload_n (pc := 86) (k := 1) (v := .ref r10) trivial (by decide +kernel) (by exact (ev_lk_st1 e14 (by decide) rfl)) ?_
          refine ev_r_getI (pc := 87) (y := 230) (ci := 4) (f := 0) (fin := 0) (by decide +kernel) (by decide +kernel) (by exact hr10) rfl ?_
          intro x25 hx25
          refine ev_r_bipush (pc := 90) (k := 18) (by decide +kernel) (by decide +kernel) ?_
          refine ev_r_jn (Q := fun K => ∀ (x26 : Int) (hx26 : ev_rng x26), ∀ (s31 : ev_St) (w27 : List (Nat × Value)), ev_lk w27 0 = some (.ref 3) → ev_lk w27 1 = some (.ref r10) → ev_lk w27 2 = some (.int (Int32.ofInt x11)) → ev_w none (ev_Mof 100) d 109 w27 [.int (Int32.ofInt x26)] s31 (K x26 s31) ev_eI ev_bl) ?_ ?_
          · intro x26 hx26 s31 w27 e28 e29 e30
            refine ev_r_istore_n (pc := 109) (k := 3) (by decide +kernel) (by decide +kernel) rfl ?_
            refine ev_r_iload_n (pc := 110) (k := 3) (v := Int32.ofInt x26) (by decide +kernel) (by exact ev_lk_st1_self) ?_
            refine ev_r_jn (Q := fun K => ∀ (s36 : ev_St) (w32 : List (Nat × Value)), ev_lk w32 0 = some (.ref 3) → ev_lk w32 1 = some (.ref r10) → ev_lk w32 2 = some (.int (Int32.ofInt x11)) → ev_w none (ev_Mof 100) d 143 w32 [] s36 (K  s36) ev_eI ev_bl) ?_ ?_
            · intro  s36 w32 e33 e34 e35
              refine ev_r_aload_n (pc := 143) (k := 0) (v := .ref 3) trivial (by decide +kernel) (by exact e33) ?_
              refine ev_r_aload_n (pc := 144) (k := 1) (v := .ref r10) trivial (by decide +kernel) (by exact e34) ?_
              refine ev_r_getI (pc := 145) (y := 236) (ci := 4) (f := 2) (fin := 0) (by decide +kernel) (by decide +kernel) (by exact hr10) rfl ?_
              intro x37 hx37
              refine ev_r_putI (pc := 148) (y := 72) (ci := 7) (f := 11) hx37 (by decide +kernel) (by decide +kernel) (by exact ev_ob_3) rfl rfl ?_
              intro s38
              refine ev_r_aload_n (pc := 151) (k := 0) (v := .ref 3) trivial (by decide +kernel) (by exact e33) ?_
              refine ev_r_dup (pc := 152) rfl (by decide +kernel) ?_
              refine ev_r_getI (pc := 153) (y := 69) (ci := 7) (f := 10) (fin := 0) (by decide +kernel) (by decide +kernel) (by exact ev_ob_3) rfl ?_
              intro x39 hx39
              refine ev_r_iconst (pc := 156) (k := 1) (by decide +kernel) ?_
              refine ev_r_isub (pc := 157) (by decide +kernel) ?_
              intro x40 hx40
              refine ev_r_putI (pc := 158) (y := 69) (ci := 7) (f := 10) hx40 (by decide +kernel) (by decide +kernel) (by exact ev_ob_3) rfl rfl ?_
              intro s41
              refine ev_r_aload_n (pc := 161) (k := 0) (v := .ref 3) trivial (by decide +kernel) (by exact e33) ?_
              refine ev_r_iconst (pc := 162) (k := 1) (by decide +kernel) ?_
              refine ev_r_putI (pc := 163) (y := 165) (ci := 7) (f := 13) (by decide) (by decide +kernel) (by decide +kernel) (by exact ev_ob_3) rfl (ev_fit_bl (by decide : ev_bl 1)) ?_
              intro s42
              refine ev_r_aload_n (pc := 166) (k := 0) (v := .ref 3) trivial (by decide +kernel) (by exact e33) ?_
              refine ev_r_getI (pc := 167) (y := 69) (ci := 7) (f := 10) (fin := 0) (by decide +kernel) (by decide +kernel) (by exact ev_ob_3) rfl ?_
              intro x43 hx43
              refine ev_r_if (pc := 170) (q := .lt) (o := 11) (t := 181) (c := x43 < 0) (by decide +kernel) (ev_k_lt hx43 ev_rng0) (by decide +kernel) ?_ ?_
              · intro c44
                refine ev_r_iconst (pc := 181) (k := 1) (by decide +kernel) ?_
                refine ev_r_goto (pc := 182) (o := 4) (t := 186) (by decide +kernel) (by decide +kernel) ?_
                exact ev_r_ireturn (pc := 186) (x := 1) (v := Int32.ofInt 1) (ty := .boolean) (by decide : ev_bl 1) (by decide +kernel) (by decide +kernel) (ev_ret_bl (by decide : ev_bl 1)) rfl
              · intro c44
                refine ev_r_aload_n (pc := 173) (k := 0) (v := .ref 3) trivial (by decide +kernel) (by exact e33) ?_
                refine ev_r_iload_n (pc := 174) (k := 2) (v := Int32.ofInt x11) (by decide +kernel) (by exact e35) ?_
                refine ev_r_virt (pc := 175) (y := 172) (mi := 91) (na := 1) (k := 3) (as := [.int (Int32.ofInt x11)]) (rest := []) (encc := ev_oI) (Q := ev_bl) (fun x S1 h => jt_91 d (by omega) Q x11 hx11 s42 x S1 h) (by exact ev_ob_3) (by decide +kernel) (by decide +kernel) (by decide +kernel) (by decide +kernel) rfl (by (try simp only [ev_sum, ev_nv_cat]); first | done | rfl) ?_
                intro x46 s45 hx46
                replace hx46 := ev_bl_rng hx46
                show ev_w _ _ _ _ _ [.int (Int32.ofInt x46)] _ _ _ _
                refine ev_r_if (pc := 178) (q := .eq) (o := 7) (t := 185) (c := x46 = 0) (by decide +kernel) (ev_k_eq hx46 ev_rng0) (by decide +kernel) ?_ ?_
                · intro c47
                  refine ev_r_iconst (pc := 185) (k := 0) (by decide +kernel) ?_
                  exact ev_r_ireturn (pc := 186) (x := 0) (v := Int32.ofInt 0) (ty := .boolean) (by decide : ev_bl 0) (by decide +kernel) (by decide +kernel) (ev_ret_bl (by decide : ev_bl 0)) rfl
                · intro c47
                  refine ev_r_iconst (pc := 181) (k := 1) (by decide +kernel) ?_
                  refine ev_r_goto (pc := 182) (o := 4) (t := 186) (by decide +kernel) (by decide +kernel) ?_
                  exact ev_r_ireturn (pc := 186) (x := 1) (v := Int32.ofInt 1) (ty := .boolean) (by decide : ev_bl 1) (by decide +kernel) (by decide +kernel) (ev_ret_bl (by decide : ev_bl 1)) rfl
            · intro K143 hK143
              refine ev_r_if (pc := 111) (q := .eq) (o := 32) (t := 143) (c := x26 = 0) (by decide +kernel) (ev_k_eq hx26 ev_rng0) (by decide +kernel) ?_ ?_
              · intro c48
                exact hK143  s31 _ (by exact (ev_l1 e28 (by decide) (by decide))) (by exact (ev_l1 e29 (by decide) (by decide))) (by exact (ev_lk_st1 e30 (by decide) rfl))
              · intro c48
                refine ev_r_aload_n (pc := 114) (k := 1) (v := .ref r10) trivial (by decide +kernel) (by exact (ev_l1 e29 (by decide) (by decide))) ?_
                refine ev_r_getI (pc := 115) (y := 233) (ci := 4) (f := 1) (fin := 0) (by decide +kernel) (by decide +kernel) (by exact hr10) rfl ?_
                intro x49 hx49
                refine ev_r_if (pc := 118) (q := .lt) (o := 25) (t := 143) (c := x49 < 0) (by decide +kernel) (ev_k_lt hx49 ev_rng0) (by decide +kernel) ?_ ?_
                · intro c50
                  exact hK143  s31 _ (by exact (ev_l1 e28 (by decide) (by decide))) (by exact (ev_l1 e29 (by decide) (by decide))) (by exact (ev_lk_st1 e30 (by decide) rfl))
                · intro c50
                  refine ev_r_aload_n (pc := 121) (k := 1) (v := .ref r10) trivial (by decide +kernel) (by exact (ev_l1 e29 (by decide) (by decide))) ?_
                  refine ev_r_getI (pc := 122) (y := 233) (ci := 4) (f := 1) (fin := 0) (by decide +kernel) (by decide +kernel) (by exact hr10) rfl ?_
                  intro x51 hx51
                  refine ev_r_bipush (pc := 125) (k := 9) (by decide +kernel) (by decide +kernel) ?_
                  refine ev_r_icmp (pc := 127) (q := .gt) (o := 16) (t := 143) (c := 9 < x51) (by decide +kernel) (ev_k_gt hx51 (by decide)) (by decide +kernel) ?_ ?_
                  · intro c52
                    exact hK143  s31 _ (by exact (ev_l1 e28 (by decide) (by decide))) (by exact (ev_l1 e29 (by decide) (by decide))) (by exact (ev_lk_st1 e30 (by decide) rfl))
                  · intro c52
                    refine ev_r_aload_n (pc := 130) (k := 0) (v := .ref 3) trivial (by decide +kernel) (by exact (ev_l1 e28 (by decide) (by decide))) ?_
                    refine ev_r_getR (pc := 131) (y := 55) (ci := 7) (f := 9) (fin := 0) (t := 5) (by decide +kernel) (by decide +kernel) (by exact ev_ob_3) rfl rfl ?_
                    intro r53 hr53
                    have hr53 : r53 = 0 ∨ ev_isOb (r53 - 1) 5 = true := hr53
                    refine ev_r_chk ?_
                    intro c54
                    refine ev_r_dr (r := r53) (fun v => [v]) c54 ?_
                    refine ev_r_getC (pc := 134) (y := 247) (ci := 5) (f := 9) (fin := 2) (k' := ((r53 - 1) + 10)) (by decide +kernel) (by decide +kernel) (by exact (hr53.resolve_left c54)) rfl rfl ?_
                    refine ev_r_aload_n (pc := 137) (k := 1) (v := .ref r10) trivial (by decide +kernel) (by exact (ev_l1 e29 (by decide) (by decide))) ?_
                    refine ev_r_getI (pc := 138) (y := 233) (ci := 4) (f := 1) (fin := 0) (by decide +kernel) (by decide +kernel) (by exact hr10) rfl ?_
                    intro x55 hx55
                    refine ev_r_iload_n (pc := 141) (k := 2) (v := Int32.ofInt x11) (by decide +kernel) (by exact (ev_lk_st1 e30 (by decide) rfl)) ?_
                    refine ev_r_iast (pc := 142) hx11 hx55 (by decide +kernel) (by exact (ev_fo_5_9 (hr53.resolve_left c54))) ?_
                    intro s56
                    exact hK143  s56 _ (by exact (ev_l1 e28 (by decide) (by decide))) (by exact (ev_l1 e29 (by decide) (by decide))) (by exact (ev_lk_st1 e30 (by decide) rfl))
          · intro K109 hK109
            refine ev_r_jn (Q := fun K => ∀ (s61 : ev_St) (w57 : List (Nat × Value)), ev_lk w57 0 = some (.ref 3) → ev_lk w57 1 = some (.ref r10) → ev_lk w57 2 = some (.int (Int32.ofInt x11)) → ev_w none (ev_Mof 100) d 104 w57 [] s61 (K  s61) ev_eI ev_bl) ?_ ?_
            · intro  s61 w57 e58 e59 e60
              refine ev_r_iconst (pc := 104) (k := 1) (by decide +kernel) ?_
              refine ev_r_goto (pc := 105) (o := 4) (t := 109) (by decide +kernel) (by decide +kernel) ?_
              exact hK109 1 (by decide) s61 _ (by exact e58) (by exact e59) (by exact e60)
            · intro K104 hK104
              refine ev_r_icmp (pc := 92) (q := .eq) (o := 12) (t := 104) (c := x25 = 18) (by decide +kernel) (ev_k_eq hx25 (by decide)) (by decide +kernel) ?_ ?_
              · intro c62
                exact hK104  s24 _ (by exact (ev_l1 e13 (by decide) (by decide))) (by exact (ev_lk_st1 e14 (by decide) rfl)) (by exact ev_lk_st1_self)
              · intro c62
                refine ev_r_aload_n (pc := 95) (k := 1) (v := .ref r10) trivial (by decide +kernel) (by exact (ev_lk_st1 e14 (by decide) rfl)) ?_
                refine ev_r_getI (pc := 96) (y := 230) (ci := 4) (f := 0) (fin := 0) (by decide +kernel) (by decide +kernel) (by exact hr10) rfl ?_
                intro x63 hx63
                refine ev_r_bipush (pc := 99) (k := 16) (by decide +kernel) (by decide +kernel) ?_
                refine ev_r_icmp (pc := 101) (q := .ne) (o := 7) (t := 108) (c := x63 ≠ 16) (by decide +kernel) (ev_k_ne hx63 (by decide)) (by decide +kernel) ?_ ?_
                · intro c64
                  refine ev_r_iconst (pc := 108) (k := 0) (by decide +kernel) ?_
                  exact hK109 0 (by decide) s24 _ (by exact (ev_l1 e13 (by decide) (by decide))) (by exact (ev_lk_st1 e14 (by decide) rfl)) (by exact ev_lk_st1_self)
                · intro c64
                  exact hK104  s24 _ (by exact (ev_l1 e13 (by decide) (by decide))) (by exact (ev_lk_st1 e14 (by decide) rfl)) (by exact ev_lk_st1_self)
        · intro c20
          refine ev_r_iconst (pc := 71) (k := 0) (by decide +kernel) ?_
          exact ev_r_ireturn (pc := 72) (x := 0) (v := Int32.ofInt 0) (ty := .boolean) (by decide : ev_bl 0) (by decide +kernel) (by decide +kernel) (ev_ret_bl (by decide : ev_bl 0)) rfl
      · intro K59 hK59
        refine ev_r_if (pc := 36) (q := .eq) (o := 22) (t := 58) (c := x9 = 0) (by decide +kernel) (ev_k_eq hx9 ev_rng0) (by decide +kernel) ?_ ?_
        · intro c65
          refine ev_r_iconst (pc := 58) (k := -1) (by decide +kernel) ?_
          exact hK59 ((17 + 1 * Int.toNat x5)) (ev_el_14 c6) ((-1)) (by decide) s8 _ (by exact (ev_lk_st1 (by rfl) (by decide) rfl)) (by exact ev_lk_st1_self)
        · intro c65
          refine ev_r_aload_n (pc := 39) (k := 0) (v := .ref 3) trivial (by decide +kernel) (by exact (ev_lk_st1 (by rfl) (by decide) rfl)) ?_
          refine ev_r_getR (pc := 40) (y := 55) (ci := 7) (f := 9) (fin := 0) (t := 5) (by decide +kernel) (by decide +kernel) (by exact ev_ob_3) rfl rfl ?_
          intro r66 hr66
          have hr66 : r66 = 0 ∨ ev_isOb (r66 - 1) 5 = true := hr66
          refine ev_r_aload_n (pc := 43) (k := 1) (v := .ref ((17 + 1 * Int.toNat x5))) trivial (by decide +kernel) (by exact ev_lk_st1_self) ?_
          refine ev_r_getI (pc := 44) (y := 230) (ci := 4) (f := 0) (fin := 0) (by decide +kernel) (by decide +kernel) (by exact (ev_el_14 c6)) rfl ?_
          intro x67 hx67
          refine ev_r_aload_n (pc := 47) (k := 1) (v := .ref ((17 + 1 * Int.toNat x5))) trivial (by decide +kernel) (by exact ev_lk_st1_self) ?_
          refine ev_r_getI (pc := 48) (y := 233) (ci := 4) (f := 1) (fin := 0) (by decide +kernel) (by decide +kernel) (by exact (ev_el_14 c6)) rfl ?_
          intro x68 hx68
          refine ev_r_iconst (pc := 51) (k := 0) (by decide +kernel) ?_
          refine ev_r_chk ?_
          intro c69
          refine ev_r_dr (r := r66) (fun v => [.int (Int32.ofInt 0), .int (Int32.ofInt x68), .int (Int32.ofInt x67), v]) c69 ?_
          refine ev_r_virt (pc := 52) (y := 168) (mi := 58) (na := 3) (k := (r66 - 1)) (as := [.int (Int32.ofInt x67), .int (Int32.ofInt x68), .int (Int32.ofInt 0)]) (rest := []) (encc := ev_oI) (Q := ev_rng) (fun x S1 h => jt_58 d (by omega) Q ((r66 - 1)) x67 x68 0 (hr66.resolve_left c69) hx67 hx68 (by decide) s8 x S1 h) (by exact (hr66.resolve_left c69)) (by decide +kernel) (by decide +kernel) (by decide +kernel) (by decide +kernel) rfl (by (try simp only [ev_sum, ev_nv_cat]); first | done | rfl) ?_
          intro x71 s70 hx71
          show ev_w _ _ _ _ _ [.int (Int32.ofInt x71)] _ _ _ _
          refine ev_r_goto (pc := 55) (o := 4) (t := 59) (by decide +kernel) (by decide +kernel) ?_
          exact hK59 ((17 + 1 * Int.toNat x5)) (ev_el_14 c6) x71 hx71 s70 _ (by exact (ev_lk_st1 (by rfl) (by decide) rfl)) (by exact ev_lk_st1_self)
    · intro c4
      refine ev_r_iconst (pc := 19) (k := 0) (by decide +kernel) ?_
      exact ev_r_ireturn (pc := 20) (x := 0) (v := Int32.ofInt 0) (ty := .boolean) (by decide : ev_bl 0) (by decide +kernel) (by decide +kernel) (ev_ret_bl (by decide : ev_bl 0)) rfl
def jb_113_2 (Q : Nat)   (K2 : Int → ev_St → Option ((Int) × ev_St)) (x1 : Int) (s5 : ev_St) : Option ((Int) × ev_St) := ev_b (s5.2.2.1 3 9) fun r6 => ev_if (r6 ≠ 0) (ev_b (s5.1 ((r6 - 1)) 11) fun x8 => ev_jn (fun  (s11 : ev_St) => ev_b (s11.2.2.1 3 9) fun r12 => ev_if (r12 ≠ 0) (ev_bd (jm_67 Q ((r12 - 1)) s11) fun _ s14 => some (1, s14))) fun K158 => if x8 ≤ x1 then (K158  s5) else (if 400 ≤ x1 then (K158  s5) else (ev_b (s5.2.2.1 3 9) fun r17 => ev_if (r17 ≠ 0) (ev_if ((0 : Int) ≤ x1 ∧ x1 < (ev_aln (((r17 - 1) + 1)) : Int)) (ev_b (s5.1 (((r17 - 1) + 1)) (Int.toNat x1)) fun x19 => ev_jn (fun (x20 : Int) (s25 : ev_St) => ev_jn (fun (x26 : Int) (s30 : ev_St) => ev_jn (fun  (s34 : ev_St) => ev_ck (x1 + 1) fun x35 => K2 x35 s34) fun K152 => if x26 = 0 then (K152  s30) else (ev_b (s30.2.2.1 3 9) fun r37 => ev_if (r37 ≠ 0) (ev_if ((0 : Int) ≤ x1 ∧ x1 < (ev_aln (((r37 - 1) + 2)) : Int)) (ev_b (s30.1 (((r37 - 1) + 2)) (Int.toNat x1)) fun x39 => ev_b (s30.2.2.1 3 9) fun r40 => ev_if (r40 ≠ 0) (ev_b (s30.1 ((r40 - 1)) 12) fun x42 => if x39 ≤ x42 then (K152  s30) else (some (0, s30))))))) fun K126 => ev_jn (fun  (s47 : ev_St) => K126 1 s47) fun K121 => if x20 = 7 then (K121  s25) else (if x20 = 8 then (K121  s25) else (if x20 ≠ 9 then (K126 0 s25) else (K121  s25)))) fun K103 => if x19 ≠ 7 then (K103 x19 s5) else (ev_b (s5.2.2.1 3 9) fun r52 => ev_if (r52 ≠ 0) (ev_if ((0 : Int) ≤ x1 ∧ x1 < (ev_aln (((r52 - 1) + 2)) : Int)) (ev_b (s5.1 (((r52 - 1) + 2)) (Int.toNat x1)) fun x54 => if 0 ≤ x54 then (K103 x19 s5) else (ev_b (s5.2.2.1 3 9) fun r56 => ev_if (r56 ≠ 0) (ev_if ((0 : Int) ≤ x1 ∧ x1 < (ev_aln (((r56 - 1) + 2)) : Int)) (ev_b (s5.1 (((r56 - 1) + 2)) (Int.toNat x1)) fun x58 => ev_ck (-x58) fun x59 => ev_ck (x59 - 1) fun x60 => ev_b (s5.2.2.1 3 9) fun r61 => ev_if (r61 ≠ 0) (ev_jn (fun (x65 : Int) (x64 : Int) (r63 : Nat) (s70 : ev_St) => ev_if ((0 : Int) ≤ x64 ∧ x64 < (ev_aln r63 : Int)) (ev_b (ev_pI s70 r63 (Int.toNat x64) x65) fun s71 => ev_b (s71.2.2.1 3 9) fun r72 => ev_if (r72 ≠ 0) (ev_if ((0 : Int) ≤ x1 ∧ x1 < (ev_aln (((r72 - 1) + 2)) : Int)) (ev_b (s71.1 (((r72 - 1) + 2)) (Int.toNat x1)) fun x74 => if x74 ≠ 0 then (K103 x19 s71) else (some (0, s71)))))) fun K88 => if 26 ≤ x60 then (K88 0 x1 (((r61 - 1) + 2)) s5) else (ev_b (s5.2.2.1 3 9) fun r77 => ev_if (r77 ≠ 0) (ev_if ((0 : Int) ≤ x60 ∧ x60 < (ev_aln (((r77 - 1) + 11)) : Int)) (ev_b (s5.1 (((r77 - 1) + 11)) (Int.toNat x60)) fun x79 => K88 x79 x1 (((r61 - 1) + 2)) s5)))))))))))))))
def jl_113_2 (Q : Nat)   : Nat → Int → ev_St → Option ((Int) × ev_St)
  | 0 => fun _ _ => none
  | q + 1 => jb_113_2 Q   (jl_113_2 Q   q)
theorem jbt_113_2 (d : Nat) (hd : 4 ≤ d + 1) (Q : Nat)     (K2 : Int → ev_St → Option ((Int) × ev_St)) (hK2 : ∀ (x1 : Int) (hx1 : ev_rng x1), ∀ (s5 : ev_St) (w2 : List (Nat × Value)), ev_lk w2 0 = some (.ref 3) → ev_lk w2 1 = some (.int (Int32.ofInt x1)) → ev_w none (ev_Mof 113) d 2 w2 [] s5 (K2 x1 s5) ev_eI ev_bl) : ∀ (x1 : Int) (hx1 : ev_rng x1), ∀ (s5 : ev_St) (w2 : List (Nat × Value)), ev_lk w2 0 = some (.ref 3) → ev_lk w2 1 = some (.int (Int32.ofInt x1)) → ev_w none (ev_Mof 113) d 2 w2 [] s5 (jb_113_2 Q   K2 x1 s5) ev_eI ev_bl := by
  intro x1 hx1 s5 w2 e3 e4
  unfold jb_113_2
  refine ev_r_iload_n (pc := 2) (k := 1) (v := Int32.ofInt x1) (by decide +kernel) (by exact e4) ?_
  refine ev_r_aload_n (pc := 3) (k := 0) (v := .ref 3) trivial (by decide +kernel) (by exact e3) ?_
  refine ev_r_getR (pc := 4) (y := 55) (ci := 7) (f := 9) (fin := 0) (t := 5) (by decide +kernel) (by decide +kernel) (by exact ev_ob_3) rfl rfl ?_
  intro r6 hr6
  have hr6 : r6 = 0 ∨ ev_isOb (r6 - 1) 5 = true := hr6
  refine ev_r_chk ?_
  intro c7
  refine ev_r_dr (r := r6) (fun v => [v, .int (Int32.ofInt x1)]) c7 ?_
  refine ev_r_getI (pc := 7) (y := 283) (ci := 5) (f := 11) (fin := 0) (by decide +kernel) (by decide +kernel) (by exact (hr6.resolve_left c7)) rfl ?_
  intro x8 hx8
  refine ev_r_jn (Q := fun K => ∀ (s11 : ev_St) (w9 : List (Nat × Value)), ev_lk w9 0 = some (.ref 3) → ev_w none (ev_Mof 113) d 158 w9 [] s11 (K  s11) ev_eI ev_bl) ?_ ?_
  · intro  s11 w9 e10
    refine ev_r_aload_n (pc := 158) (k := 0) (v := .ref 3) trivial (by decide +kernel) (by exact e10) ?_
    refine ev_r_getR (pc := 159) (y := 55) (ci := 7) (f := 9) (fin := 0) (t := 5) (by decide +kernel) (by decide +kernel) (by exact ev_ob_3) rfl rfl ?_
    intro r12 hr12
    have hr12 : r12 = 0 ∨ ev_isOb (r12 - 1) 5 = true := hr12
    refine ev_r_chk ?_
    intro c13
    refine ev_r_dr (r := r12) (fun v => [v]) c13 ?_
    refine ev_r_virt (pc := 162) (y := 288) (mi := 67) (na := 0) (k := (r12 - 1)) (as := []) (rest := []) (encc := ev_oU) (Q := ev_PU) (fun x S1 h => jt_67 d (by omega) Q ((r12 - 1)) (hr12.resolve_left c13) s11 x S1 h) (by exact (hr12.resolve_left c13)) (by decide +kernel) (by decide +kernel) (by decide +kernel) (by decide +kernel) rfl (by (try simp only [ev_sum, ev_nv_cat]); first | done | rfl) ?_
    intro _ s14 _
    show ev_w _ _ _ _ _ [] _ _ _ _
    refine ev_r_iconst (pc := 165) (k := 1) (by decide +kernel) ?_
    exact ev_r_ireturn (pc := 166) (x := 1) (v := Int32.ofInt 1) (ty := .boolean) (by decide : ev_bl 1) (by decide +kernel) (by decide +kernel) (ev_ret_bl (by decide : ev_bl 1)) rfl
  · intro K158 hK158
    refine ev_r_icmp (pc := 10) (q := .ge) (o := 148) (t := 158) (c := x8 ≤ x1) (by decide +kernel) (ev_k_ge hx1 hx8) (by decide +kernel) ?_ ?_
    · intro c15
      exact hK158  s5 _ (by exact e3)
    · intro c15
      refine ev_r_iload_n (pc := 13) (k := 1) (v := Int32.ofInt x1) (by decide +kernel) (by exact e4) ?_
      refine ev_r_sipush (pc := 14) (k := 400) (by decide +kernel) (by decide +kernel) ?_
      refine ev_r_icmp (pc := 17) (q := .ge) (o := 141) (t := 158) (c := 400 ≤ x1) (by decide +kernel) (ev_k_ge hx1 (by decide)) (by decide +kernel) ?_ ?_
      · intro c16
        exact hK158  s5 _ (by exact e3)
      · intro c16
        refine ev_r_aload_n (pc := 20) (k := 0) (v := .ref 3) trivial (by decide +kernel) (by exact e3) ?_
        refine ev_r_getR (pc := 21) (y := 55) (ci := 7) (f := 9) (fin := 0) (t := 5) (by decide +kernel) (by decide +kernel) (by exact ev_ob_3) rfl rfl ?_
        intro r17 hr17
        have hr17 : r17 = 0 ∨ ev_isOb (r17 - 1) 5 = true := hr17
        refine ev_r_chk ?_
        intro c18
        refine ev_r_dr (r := r17) (fun v => [v]) c18 ?_
        refine ev_r_getC (pc := 24) (y := 284) (ci := 5) (f := 0) (fin := 2) (k' := ((r17 - 1) + 1)) (by decide +kernel) (by decide +kernel) (by exact (hr17.resolve_left c18)) rfl rfl ?_
        refine ev_r_iload_n (pc := 27) (k := 1) (v := Int32.ofInt x1) (by decide +kernel) (by exact e4) ?_
        refine ev_r_iald (pc := 28) hx1 (by decide +kernel) (by exact (ev_fo_5_0 (hr17.resolve_left c18))) ?_
        intro x19 hx19
        refine ev_r_istore_n (pc := 29) (k := 2) (by decide +kernel) (by decide +kernel) rfl ?_
        refine ev_r_iload_n (pc := 30) (k := 2) (v := Int32.ofInt x19) (by decide +kernel) (by exact ev_lk_st1_self) ?_
        refine ev_r_bipush (pc := 31) (k := 7) (by decide +kernel) (by decide +kernel) ?_
        refine ev_r_jn (Q := fun K => ∀ (x20 : Int) (hx20 : ev_rng x20), ∀ (s25 : ev_St) (w21 : List (Nat × Value)), ev_lk w21 0 = some (.ref 3) → ev_lk w21 1 = some (.int (Int32.ofInt x1)) → ev_lk w21 2 = some (.int (Int32.ofInt x20)) → ev_w none (ev_Mof 113) d 103 w21 [] s25 (K x20 s25) ev_eI ev_bl) ?_ ?_
        · intro x20 hx20 s25 w21 e22 e23 e24
          refine ev_r_iload_n (pc := 103) (k := 2) (v := Int32.ofInt x20) (by decide +kernel) (by exact e24) ?_
          refine ev_r_bipush (pc := 104) (k := 7) (by decide +kernel) (by decide +kernel) ?_
          refine ev_r_jn (Q := fun K => ∀ (x26 : Int) (hx26 : ev_rng x26), ∀ (s30 : ev_St) (w27 : List (Nat × Value)), ev_lk w27 0 = some (.ref 3) → ev_lk w27 1 = some (.int (Int32.ofInt x1)) → ev_w none (ev_Mof 113) d 126 w27 [.int (Int32.ofInt x26)] s30 (K x26 s30) ev_eI ev_bl) ?_ ?_
          · intro x26 hx26 s30 w27 e28 e29
            refine ev_r_istore_n (pc := 126) (k := 3) (by decide +kernel) (by decide +kernel) rfl ?_
            refine ev_r_iload_n (pc := 127) (k := 3) (v := Int32.ofInt x26) (by decide +kernel) (by exact ev_lk_st1_self) ?_
            refine ev_r_jn (Q := fun K => ∀ (s34 : ev_St) (w31 : List (Nat × Value)), ev_lk w31 0 = some (.ref 3) → ev_lk w31 1 = some (.int (Int32.ofInt x1)) → ev_w none (ev_Mof 113) d 152 w31 [] s34 (K  s34) ev_eI ev_bl) ?_ ?_
            · intro  s34 w31 e32 e33
              refine ev_r_iinc (pc := 152) (k := 1) (c := 1) (x := x1) (by decide +kernel) (by decide +kernel) (by exact e33) (fun _ => rfl) ?_
              intro x35 hx35
              refine ev_r_goto (pc := 155) (o := (-153)) (t := 2) (by decide +kernel) (by decide +kernel) ?_
              exact hK2 x35 hx35 s34 _ (by exact (ev_lk_st1 e32 (by decide) rfl)) (by exact ev_lk_st1_self)
            · intro K152 hK152
              refine ev_r_if (pc := 128) (q := .eq) (o := 24) (t := 152) (c := x26 = 0) (by decide +kernel) (ev_k_eq hx26 ev_rng0) (by decide +kernel) ?_ ?_
              · intro c36
                exact hK152  s30 _ (by exact (ev_l1 e28 (by decide) (by decide))) (by exact (ev_l1 e29 (by decide) (by decide)))
              · intro c36
                refine ev_r_aload_n (pc := 131) (k := 0) (v := .ref 3) trivial (by decide +kernel) (by exact (ev_l1 e28 (by decide) (by decide))) ?_
                refine ev_r_getR (pc := 132) (y := 55) (ci := 7) (f := 9) (fin := 0) (t := 5) (by decide +kernel) (by decide +kernel) (by exact ev_ob_3) rfl rfl ?_
                intro r37 hr37
                have hr37 : r37 = 0 ∨ ev_isOb (r37 - 1) 5 = true := hr37
                refine ev_r_chk ?_
                intro c38
                refine ev_r_dr (r := r37) (fun v => [v]) c38 ?_
                refine ev_r_getC (pc := 135) (y := 286) (ci := 5) (f := 1) (fin := 2) (k' := ((r37 - 1) + 2)) (by decide +kernel) (by decide +kernel) (by exact (hr37.resolve_left c38)) rfl rfl ?_
                refine ev_r_iload_n (pc := 138) (k := 1) (v := Int32.ofInt x1) (by decide +kernel) (by exact (ev_l1 e29 (by decide) (by decide))) ?_
                refine ev_r_iald (pc := 139) hx1 (by decide +kernel) (by exact (ev_fo_5_1 (hr37.resolve_left c38))) ?_
                intro x39 hx39
                refine ev_r_aload_n (pc := 140) (k := 0) (v := .ref 3) trivial (by decide +kernel) (by exact (ev_l1 e28 (by decide) (by decide))) ?_
                refine ev_r_getR (pc := 141) (y := 55) (ci := 7) (f := 9) (fin := 0) (t := 5) (by decide +kernel) (by decide +kernel) (by exact ev_ob_3) rfl rfl ?_
                intro r40 hr40
                have hr40 : r40 = 0 ∨ ev_isOb (r40 - 1) 5 = true := hr40
                refine ev_r_chk ?_
                intro c41
                refine ev_r_dr (r := r40) (fun v => [v, .int (Int32.ofInt x39)]) c41 ?_
                refine ev_r_getI (pc := 144) (y := 274) (ci := 5) (f := 12) (fin := 0) (by decide +kernel) (by decide +kernel) (by exact (hr40.resolve_left c41)) rfl ?_
                intro x42 hx42
                refine ev_r_icmp (pc := 147) (q := .le) (o := 5) (t := 152) (c := x39 ≤ x42) (by decide +kernel) (ev_k_le hx39 hx42) (by decide +kernel) ?_ ?_
                · intro c43
                  exact hK152  s30 _ (by exact (ev_l1 e28 (by decide) (by decide))) (by exact (ev_l1 e29 (by decide) (by decide)))
                · intro c43
                  refine ev_r_iconst (pc := 150) (k := 0) (by decide +kernel) ?_
                  exact ev_r_ireturn (pc := 151) (x := 0) (v := Int32.ofInt 0) (ty := .boolean) (by decide : ev_bl 0) (by decide +kernel) (by decide +kernel) (ev_ret_bl (by decide : ev_bl 0)) rfl
          · intro K126 hK126
            refine ev_r_jn (Q := fun K => ∀ (s47 : ev_St) (w44 : List (Nat × Value)), ev_lk w44 0 = some (.ref 3) → ev_lk w44 1 = some (.int (Int32.ofInt x1)) → ev_w none (ev_Mof 113) d 121 w44 [] s47 (K  s47) ev_eI ev_bl) ?_ ?_
            · intro  s47 w44 e45 e46
              refine ev_r_iconst (pc := 121) (k := 1) (by decide +kernel) ?_
              refine ev_r_goto (pc := 122) (o := 4) (t := 126) (by decide +kernel) (by decide +kernel) ?_
              exact hK126 1 (by decide) s47 _ (by exact e45) (by exact e46)
            · intro K121 hK121
              refine ev_r_icmp (pc := 106) (q := .eq) (o := 15) (t := 121) (c := x20 = 7) (by decide +kernel) (ev_k_eq hx20 (by decide)) (by decide +kernel) ?_ ?_
              · intro c48
                exact hK121  s25 _ (by exact e22) (by exact e23)
              · intro c48
                refine ev_r_iload_n (pc := 109) (k := 2) (v := Int32.ofInt x20) (by decide +kernel) (by exact e24) ?_
                refine ev_r_bipush (pc := 110) (k := 8) (by decide +kernel) (by decide +kernel) ?_
                refine ev_r_icmp (pc := 112) (q := .eq) (o := 9) (t := 121) (c := x20 = 8) (by decide +kernel) (ev_k_eq hx20 (by decide)) (by decide +kernel) ?_ ?_
                · intro c49
                  exact hK121  s25 _ (by exact e22) (by exact e23)
                · intro c49
                  refine ev_r_iload_n (pc := 115) (k := 2) (v := Int32.ofInt x20) (by decide +kernel) (by exact e24) ?_
                  refine ev_r_bipush (pc := 116) (k := 9) (by decide +kernel) (by decide +kernel) ?_
                  refine ev_r_icmp (pc := 118) (q := .ne) (o := 7) (t := 125) (c := x20 ≠ 9) (by decide +kernel) (ev_k_ne hx20 (by decide)) (by decide +kernel) ?_ ?_
                  · intro c50
                    refine ev_r_iconst (pc := 125) (k := 0) (by decide +kernel) ?_
                    exact hK126 0 (by decide) s25 _ (by exact e22) (by exact e23)
                  · intro c50
                    exact hK121  s25 _ (by exact e22) (by exact e23)
        · intro K103 hK103
          refine ev_r_icmp (pc := 33) (q := .ne) (o := 70) (t := 103) (c := x19 ≠ 7) (by decide +kernel) (ev_k_ne hx19 (by decide)) (by decide +kernel) ?_ ?_
          · intro c51
            exact hK103 x19 hx19 s5 _ (by exact (ev_l1 e3 (by decide) (by decide))) (by exact (ev_lk_st1 e4 (by decide) rfl)) (by exact ev_lk_st1_self)
          · intro c51
            refine ev_r_aload_n (pc := 36) (k := 0) (v := .ref 3) trivial (by decide +kernel) (by exact (ev_l1 e3 (by decide) (by decide))) ?_
            refine ev_r_getR (pc := 37) (y := 55) (ci := 7) (f := 9) (fin := 0) (t := 5) (by decide +kernel) (by decide +kernel) (by exact ev_ob_3) rfl rfl ?_
            intro r52 hr52
            have hr52 : r52 = 0 ∨ ev_isOb (r52 - 1) 5 = true := hr52
            refine ev_r_chk ?_
            intro c53
            refine ev_r_dr (r := r52) (fun v => [v]) c53 ?_
            refine ev_r_getC (pc := 40) (y := 286) (ci := 5) (f := 1) (fin := 2) (k' := ((r52 - 1) + 2)) (by decide +kernel) (by decide +kernel) (by exact (hr52.resolve_left c53)) rfl rfl ?_
            refine ev_r_iload_n (pc := 43) (k := 1) (v := Int32.ofInt x1) (by decide +kernel) (by exact (ev_lk_st1 e4 (by decide) rfl)) ?_
            refine ev_r_iald (pc := 44) hx1 (by decide +kernel) (by exact (ev_fo_5_1 (hr52.resolve_left c53))) ?_
            intro x54 hx54
            refine ev_r_if (pc := 45) (q := .ge) (o := 58) (t := 103) (c := 0 ≤ x54) (by decide +kernel) (ev_k_ge hx54 ev_rng0) (by decide +kernel) ?_ ?_
            · intro c55
              exact hK103 x19 hx19 s5 _ (by exact (ev_l1 e3 (by decide) (by decide))) (by exact (ev_lk_st1 e4 (by decide) rfl)) (by exact ev_lk_st1_self)
            · intro c55
              refine ev_r_aload_n (pc := 48) (k := 0) (v := .ref 3) trivial (by decide +kernel) (by exact (ev_l1 e3 (by decide) (by decide))) ?_
              refine ev_r_getR (pc := 49) (y := 55) (ci := 7) (f := 9) (fin := 0) (t := 5) (by decide +kernel) (by decide +kernel) (by exact ev_ob_3) rfl rfl ?_
              intro r56 hr56
              have hr56 : r56 = 0 ∨ ev_isOb (r56 - 1) 5 = true := hr56
              refine ev_r_chk ?_
              intro c57
              refine ev_r_dr (r := r56) (fun v => [v]) c57 ?_
              refine ev_r_getC (pc := 52) (y := 286) (ci := 5) (f := 1) (fin := 2) (k' := ((r56 - 1) + 2)) (by decide +kernel) (by decide +kernel) (by exact (hr56.resolve_left c57)) rfl rfl ?_
              refine ev_r_iload_n (pc := 55) (k := 1) (v := Int32.ofInt x1) (by decide +kernel) (by exact (ev_lk_st1 e4 (by decide) rfl)) ?_
              refine ev_r_iald (pc := 56) hx1 (by decide +kernel) (by exact (ev_fo_5_1 (hr56.resolve_left c57))) ?_
              intro x58 hx58
              refine ev_r_ineg (pc := 57) (by decide +kernel) ?_
              intro x59 hx59
              refine ev_r_iconst (pc := 58) (k := 1) (by decide +kernel) ?_
              refine ev_r_isub (pc := 59) (by decide +kernel) ?_
              intro x60 hx60
              refine ev_r_istore_n (pc := 60) (k := 3) (by decide +kernel) (by decide +kernel) rfl ?_
              refine ev_r_aload_n (pc := 61) (k := 0) (v := .ref 3) trivial (by decide +kernel) (by exact (ev_l1 (ev_l1 e3 (by decide) (by decide)) (by decide) (by decide))) ?_
              refine ev_r_getR (pc := 62) (y := 55) (ci := 7) (f := 9) (fin := 0) (t := 5) (by decide +kernel) (by decide +kernel) (by exact ev_ob_3) rfl rfl ?_
              intro r61 hr61
              have hr61 : r61 = 0 ∨ ev_isOb (r61 - 1) 5 = true := hr61
              refine ev_r_chk ?_
              intro c62
              refine ev_r_dr (r := r61) (fun v => [v]) c62 ?_
              refine ev_r_getC (pc := 65) (y := 286) (ci := 5) (f := 1) (fin := 2) (k' := ((r61 - 1) + 2)) (by decide +kernel) (by decide +kernel) (by exact (hr61.resolve_left c62)) rfl rfl ?_
              refine ev_r_iload_n (pc := 68) (k := 1) (v := Int32.ofInt x1) (by decide +kernel) (by exact (ev_l1 (ev_lk_st1 e4 (by decide) rfl) (by decide) (by decide))) ?_
              refine ev_r_iload_n (pc := 69) (k := 3) (v := Int32.ofInt x60) (by decide +kernel) (by exact ev_lk_st1_self) ?_
              refine ev_r_bipush (pc := 70) (k := 26) (by decide +kernel) (by decide +kernel) ?_
              refine ev_r_jn (Q := fun K => ∀ (x65 : Int) (hx65 : ev_rng x65), ∀ (x64 : Int) (hx64 : ev_rng x64), ∀ (r63 : Nat) (hr63 : ev_isAb r63 1 .int = true), ∀ (s70 : ev_St) (w66 : List (Nat × Value)), ev_lk w66 0 = some (.ref 3) → ev_lk w66 1 = some (.int (Int32.ofInt x1)) → ev_lk w66 2 = some (.int (Int32.ofInt x19)) → ev_w none (ev_Mof 113) d 88 w66 [.int (Int32.ofInt x65), .int (Int32.ofInt x64), .ref r63] s70 (K x65 x64 r63 s70) ev_eI ev_bl) ?_ ?_
              · intro x65 hx65 x64 hx64 r63 hr63 s70 w66 e67 e68 e69
                refine ev_r_iast (pc := 88) hx65 hx64 (by decide +kernel) (by exact hr63) ?_
                intro s71
                refine ev_r_aload_n (pc := 89) (k := 0) (v := .ref 3) trivial (by decide +kernel) (by exact e67) ?_
                refine ev_r_getR (pc := 90) (y := 55) (ci := 7) (f := 9) (fin := 0) (t := 5) (by decide +kernel) (by decide +kernel) (by exact ev_ob_3) rfl rfl ?_
                intro r72 hr72
                have hr72 : r72 = 0 ∨ ev_isOb (r72 - 1) 5 = true := hr72
                refine ev_r_chk ?_
                intro c73
                refine ev_r_dr (r := r72) (fun v => [v]) c73 ?_
                refine ev_r_getC (pc := 93) (y := 286) (ci := 5) (f := 1) (fin := 2) (k' := ((r72 - 1) + 2)) (by decide +kernel) (by decide +kernel) (by exact (hr72.resolve_left c73)) rfl rfl ?_
                refine ev_r_iload_n (pc := 96) (k := 1) (v := Int32.ofInt x1) (by decide +kernel) (by exact e68) ?_
                refine ev_r_iald (pc := 97) hx1 (by decide +kernel) (by exact (ev_fo_5_1 (hr72.resolve_left c73))) ?_
                intro x74 hx74
                refine ev_r_if (pc := 98) (q := .ne) (o := 5) (t := 103) (c := x74 ≠ 0) (by decide +kernel) (ev_k_ne hx74 ev_rng0) (by decide +kernel) ?_ ?_
                · intro c75
                  exact hK103 x19 hx19 s71 _ (by exact e67) (by exact e68) (by exact e69)
                · intro c75
                  refine ev_r_iconst (pc := 101) (k := 0) (by decide +kernel) ?_
                  exact ev_r_ireturn (pc := 102) (x := 0) (v := Int32.ofInt 0) (ty := .boolean) (by decide : ev_bl 0) (by decide +kernel) (by decide +kernel) (ev_ret_bl (by decide : ev_bl 0)) rfl
              · intro K88 hK88
                refine ev_r_icmp (pc := 72) (q := .ge) (o := 15) (t := 87) (c := 26 ≤ x60) (by decide +kernel) (ev_k_ge hx60 (by decide)) (by decide +kernel) ?_ ?_
                · intro c76
                  refine ev_r_iconst (pc := 87) (k := 0) (by decide +kernel) ?_
                  exact hK88 0 (by decide) x1 hx1 (((r61 - 1) + 2)) (ev_fo_5_1 (hr61.resolve_left c62)) s5 _ (by exact (ev_l1 (ev_l1 e3 (by decide) (by decide)) (by decide) (by decide))) (by exact (ev_l1 (ev_lk_st1 e4 (by decide) rfl) (by decide) (by decide))) (by exact (ev_lk_st1 ev_lk_st1_self (by decide) rfl))
                · intro c76
                  refine ev_r_aload_n (pc := 75) (k := 0) (v := .ref 3) trivial (by decide +kernel) (by exact (ev_l1 (ev_l1 e3 (by decide) (by decide)) (by decide) (by decide))) ?_
                  refine ev_r_getR (pc := 76) (y := 55) (ci := 7) (f := 9) (fin := 0) (t := 5) (by decide +kernel) (by decide +kernel) (by exact ev_ob_3) rfl rfl ?_
                  intro r77 hr77
                  have hr77 : r77 = 0 ∨ ev_isOb (r77 - 1) 5 = true := hr77
                  refine ev_r_chk ?_
                  intro c78
                  refine ev_r_dr (r := r77) (fun v => [v, .int (Int32.ofInt x1), .ref (((r61 - 1) + 2))]) c78 ?_
                  refine ev_r_getC (pc := 79) (y := 277) (ci := 5) (f := 10) (fin := 2) (k' := ((r77 - 1) + 11)) (by decide +kernel) (by decide +kernel) (by exact (hr77.resolve_left c78)) rfl rfl ?_
                  refine ev_r_iload_n (pc := 82) (k := 3) (v := Int32.ofInt x60) (by decide +kernel) (by exact ev_lk_st1_self) ?_
                  refine ev_r_iald (pc := 83) hx60 (by decide +kernel) (by exact (ev_fo_5_10 (hr77.resolve_left c78))) ?_
                  intro x79 hx79
                  refine ev_r_goto (pc := 84) (o := 4) (t := 88) (by decide +kernel) (by decide +kernel) ?_
                  exact hK88 x79 hx79 x1 hx1 (((r61 - 1) + 2)) (ev_fo_5_1 (hr61.resolve_left c62)) s5 _ (by exact (ev_l1 (ev_l1 e3 (by decide) (by decide)) (by decide) (by decide))) (by exact (ev_l1 (ev_lk_st1 e4 (by decide) rfl) (by decide) (by decide))) (by exact (ev_lk_st1 ev_lk_st1_self (by decide) rfl))
theorem jlt_113_2 (d : Nat) (hd : 4 ≤ d + 1) (Q : Nat)     : ∀ q : Nat, ∀ (x1 : Int) (hx1 : ev_rng x1), ∀ (s5 : ev_St) (w2 : List (Nat × Value)), ev_lk w2 0 = some (.ref 3) → ev_lk w2 1 = some (.int (Int32.ofInt x1)) → ev_w none (ev_Mof 113) d 2 w2 [] s5 (jl_113_2 Q   q x1 s5) ev_eI ev_bl := by
  intro q
  induction q with
  | zero =>
    intro x1 hx1 s5 w2 e3 e4
    exact ev_w_none
  | succ q ih => exact jbt_113_2 d hd Q     _ ih
/-- MendBench$Reader.resolve()Z -/
def jm_113 (Q : Nat)  (S : ev_St) : Option ((Int) × ev_St) := jl_113_2 Q   Q 0 S
theorem jt_113 (d : Nat) (hd : 4 ≤ d) (Q : Nat)   (S : ev_St) (x : Int) (S' : ev_St) (hJ : jm_113 Q  S = some (x, S')) : ev_Ref d 113 [.ref 3] S (ev_eI x) S' (ev_bl x) := by
  obtain ⟨d, rfl⟩ : ∃ e, d = e + 1 := ⟨d - 1, by omega⟩
  refine ev_ref_of (P := ev_bl) (lv := [(0, .ref 3)]) (by decide +kernel) (by (try simp only [ev_sum, ev_nv_cat]); first | done | rfl) (by (try simp only [lv_args, ev_nv_cat]); first | done | rfl) ?_ x S' hJ
  unfold jm_113
  refine ev_r_iconst (pc := 0) (k := 0) (by decide +kernel) ?_
  refine ev_r_istore_n (pc := 1) (k := 1) (by decide +kernel) (by decide +kernel) rfl ?_
  exact jlt_113_2 d hd Q     Q 0 (by decide) S _ (by exact (ev_lk_st1 (by rfl) (by decide) rfl)) (by exact ev_lk_st1_self)
/-- MendBench$Reader.endText()Z -/
def jm_112 (Q : Nat)  (S : ev_St) : Option ((Int) × ev_St) := ev_b (S.1 3 10) fun x1 => if x1 < 0 then (some (0, S)) else (ev_b (S.1 3 10) fun x3 => if 152 ≤ x3 then (some (0, S)) else (ev_b (S.1 3 10) fun x5 => ev_if ((0 : Int) ≤ x5 ∧ x5 < (152 : Int)) (ev_b (17 + 1 * Int.toNat x5) fun _ => ev_b (S.1 ((17 + 1 * Int.toNat x5)) 3) fun x8 => if x8 = 0 then (some (0, S)) else (ev_bd (jm_100 Q  S) fun x11 s10 => if x11 ≠ 0 then (ev_b (s10.1 3 6) fun x13 => ev_ck (x13 - 1) fun x14 => ev_b (ev_pI s10 3 6 x14) fun s15 => ev_b (s15.1 3 6) fun x16 => ev_jn (fun (r17 : Nat) (s20 : ev_St) => if (r17 : Nat) = 0 then (some (0, s20)) else (ev_b (ev_pR s20 3 7 r17) fun s22 => ev_b (s22.1 3 6) fun x23 => ev_if ((0 : Int) ≤ x23 ∧ x23 < (ev_aln 16 : Int)) (ev_b (s22.1 16 (Int.toNat x23)) fun x24 => ev_b (ev_pI s22 3 8 x24) fun s25 => some (1, s25)))) fun K82 => ev_jn (fun  (s28 : ev_St) => K82 0 s28) fun K81 => if x16 < 0 then (K81  s15) else (ev_b (s15.1 3 6) fun x30 => if 28 ≤ x30 then (K81  s15) else (ev_b (s15.1 3 6) fun x32 => ev_if ((0 : Int) ≤ x32 ∧ x32 < (28 : Int)) (ev_b (s15.2.2.1 15 (Int.toNat x32)) fun r33 => K82 r33 s15)))) else (some (0, s10))))))
theorem jt_112 (d : Nat) (hd : 4 ≤ d) (Q : Nat)   (S : ev_St) (x : Int) (S' : ev_St) (hJ : jm_112 Q  S = some (x, S')) : ev_Ref d 112 [.ref 3] S (ev_eI x) S' (ev_bl x) := by
  obtain ⟨d, rfl⟩ : ∃ e, d = e + 1 := ⟨d - 1, by omega⟩
  refine ev_ref_of (P := ev_bl) (lv := [(0, .ref 3)]) (by decide +kernel) (by (try simp only [ev_sum, ev_nv_cat]); first | done | rfl) (by (try simp only [lv_args, ev_nv_cat]); first | done | rfl) ?_ x S' hJ
  unfold jm_112
  refine ev_r_aload_n (pc := 0) (k := 0) (v := .ref 3) trivial (by decide +kernel) (by rfl) ?_
  refine ev_r_getI (pc := 1) (y := 69) (ci := 7) (f := 10) (fin := 0) (by decide +kernel) (by decide +kernel) (by exact ev_ob_3) rfl ?_
  intro x1 hx1
  refine ev_r_if (pc := 4) (q := .lt) (o := 37) (t := 41) (c := x1 < 0) (by decide +kernel) (ev_k_lt hx1 ev_rng0) (by decide +kernel) ?_ ?_
  · intro c2
    refine ev_r_iconst (pc := 41) (k := 0) (by decide +kernel) ?_
    exact ev_r_ireturn (pc := 42) (x := 0) (v := Int32.ofInt 0) (ty := .boolean) (by decide : ev_bl 0) (by decide +kernel) (by decide +kernel) (ev_ret_bl (by decide : ev_bl 0)) rfl
  · intro c2
    refine ev_r_aload_n (pc := 7) (k := 0) (v := .ref 3) trivial (by decide +kernel) (by rfl) ?_
    refine ev_r_getI (pc := 8) (y := 69) (ci := 7) (f := 10) (fin := 0) (by decide +kernel) (by decide +kernel) (by exact ev_ob_3) rfl ?_
    intro x3 hx3
    refine ev_r_aload_n (pc := 11) (k := 0) (v := .ref 3) trivial (by decide +kernel) (by rfl) ?_
    refine ev_r_getC (pc := 12) (y := 30) (ci := 7) (f := 3) (fin := 1) (k' := 14) (by decide +kernel) (by decide +kernel) (by exact ev_ob_3) rfl rfl ?_
    refine ev_r_alenC (pc := 15) (kd := 3) (N := 152) (t := (.object "MendBench$Open", 17, 1)) (Or.inl rfl) (by decide +kernel) (by decide +kernel) ?_
    refine ev_r_icmp (pc := 16) (q := .ge) (o := 25) (t := 41) (c := 152 ≤ x3) (by decide +kernel) (ev_k_ge hx3 (by decide)) (by decide +kernel) ?_ ?_
    · intro c4
      refine ev_r_iconst (pc := 41) (k := 0) (by decide +kernel) ?_
      exact ev_r_ireturn (pc := 42) (x := 0) (v := Int32.ofInt 0) (ty := .boolean) (by decide : ev_bl 0) (by decide +kernel) (by decide +kernel) (ev_ret_bl (by decide : ev_bl 0)) rfl
    · intro c4
      refine ev_r_aload_n (pc := 19) (k := 0) (v := .ref 3) trivial (by decide +kernel) (by rfl) ?_
      refine ev_r_getC (pc := 20) (y := 30) (ci := 7) (f := 3) (fin := 1) (k' := 14) (by decide +kernel) (by decide +kernel) (by exact ev_ob_3) rfl rfl ?_
      refine ev_r_aload_n (pc := 23) (k := 0) (v := .ref 3) trivial (by decide +kernel) (by rfl) ?_
      refine ev_r_getI (pc := 24) (y := 69) (ci := 7) (f := 10) (fin := 0) (by decide +kernel) (by decide +kernel) (by exact ev_ob_3) rfl ?_
      intro x5 hx5
      refine ev_r_aald (pc := 27) (N := 152) (b := 17) (c := 1) (C := "MendBench$Open") hx5 (by decide +kernel) (by decide +kernel) ?_
      intro c6
      refine ev_r_getI (pc := 28) (y := 114) (ci := 4) (f := 3) (fin := 0) (by decide +kernel) (by decide +kernel) (by exact (ev_el_14 c6)) rfl ?_
      intro x8 hx8
      refine ev_r_if (pc := 31) (q := .eq) (o := 10) (t := 41) (c := x8 = 0) (by decide +kernel) (ev_k_eq hx8 ev_rng0) (by decide +kernel) ?_ ?_
      · intro c9
        refine ev_r_iconst (pc := 41) (k := 0) (by decide +kernel) ?_
        exact ev_r_ireturn (pc := 42) (x := 0) (v := Int32.ofInt 0) (ty := .boolean) (by decide : ev_bl 0) (by decide +kernel) (by decide +kernel) (ev_ret_bl (by decide : ev_bl 0)) rfl
      · intro c9
        refine ev_r_aload_n (pc := 34) (k := 0) (v := .ref 3) trivial (by decide +kernel) (by rfl) ?_
        refine ev_r_virt (pc := 35) (y := 91) (mi := 100) (na := 0) (k := 3) (as := []) (rest := []) (encc := ev_oI) (Q := ev_bl) (fun x S1 h => jt_100 d (by omega) Q   S x S1 h) (by exact ev_ob_3) (by decide +kernel) (by decide +kernel) (by decide +kernel) (by decide +kernel) rfl (by (try simp only [ev_sum, ev_nv_cat]); first | done | rfl) ?_
        intro x11 s10 hx11
        replace hx11 := ev_bl_rng hx11
        show ev_w _ _ _ _ _ [.int (Int32.ofInt x11)] _ _ _ _
        refine ev_r_if (pc := 38) (q := .ne) (o := 5) (t := 43) (c := x11 ≠ 0) (by decide +kernel) (ev_k_ne hx11 ev_rng0) (by decide +kernel) ?_ ?_
        · intro c12
          refine ev_r_aload_n (pc := 43) (k := 0) (v := .ref 3) trivial (by decide +kernel) (by rfl) ?_
          refine ev_r_dup (pc := 44) rfl (by decide +kernel) ?_
          refine ev_r_getI (pc := 45) (y := 66) (ci := 7) (f := 6) (fin := 0) (by decide +kernel) (by decide +kernel) (by exact ev_ob_3) rfl ?_
          intro x13 hx13
          refine ev_r_iconst (pc := 48) (k := 1) (by decide +kernel) ?_
          refine ev_r_isub (pc := 49) (by decide +kernel) ?_
          intro x14 hx14
          refine ev_r_putI (pc := 50) (y := 66) (ci := 7) (f := 6) hx14 (by decide +kernel) (by decide +kernel) (by exact ev_ob_3) rfl rfl ?_
          intro s15
          refine ev_r_aload_n (pc := 53) (k := 0) (v := .ref 3) trivial (by decide +kernel) (by rfl) ?_
          refine ev_r_getI (pc := 54) (y := 66) (ci := 7) (f := 6) (fin := 0) (by decide +kernel) (by decide +kernel) (by exact ev_ob_3) rfl ?_
          intro x16 hx16
          refine ev_r_jn (Q := fun K => ∀ (r17 : Nat) (hr17 : r17 = 0 ∨ ev_isOb (r17 - 1) 10 = true), ∀ (s20 : ev_St) (w18 : List (Nat × Value)), ev_lk w18 0 = some (.ref 3) → ev_w none (ev_Mof 112) d 82 w18 [ev_nv r17] s20 (K r17 s20) ev_eI ev_bl) ?_ ?_
          · intro r17 hr17 s20 w18 e19
            refine ev_r_astore_n (pc := 82) (k := 1) (ev_isR_nv _) (by decide +kernel) (by decide +kernel) rfl ?_
            refine ev_r_aload_n (pc := 83) (k := 1) (v := ev_nv r17) (ev_isR_nv _) (by decide +kernel) (by exact ev_lk_st1_self) ?_
            refine ev_r_ifnonnull (pc := 84) (r := r17) (o := 5) (t := 89) (by decide +kernel) (by decide +kernel) ?_ ?_
            · intro c21
              refine ev_r_aload_n (pc := 89) (k := 0) (v := .ref 3) trivial (by decide +kernel) (by exact (ev_lk_st1 e19 (by decide) rfl)) ?_
              refine ev_r_aload_n (pc := 90) (k := 1) (v := ev_nv r17) (ev_isR_nv _) (by decide +kernel) (by exact ev_lk_st1_self) ?_
              refine ev_r_putR (pc := 91) (y := 51) (ci := 7) (f := 7) (r := r17) (t := 10) (by exact hr17) (by decide +kernel) (by decide +kernel) (by exact ev_ob_3) rfl rfl (by cases r17 <;> rfl) ?_
              intro s22
              refine ev_r_aload_n (pc := 94) (k := 0) (v := .ref 3) trivial (by decide +kernel) (by exact (ev_lk_st1 e19 (by decide) rfl)) ?_
              refine ev_r_aload_n (pc := 95) (k := 0) (v := .ref 3) trivial (by decide +kernel) (by exact (ev_lk_st1 e19 (by decide) rfl)) ?_
              refine ev_r_getC (pc := 96) (y := 37) (ci := 7) (f := 5) (fin := 1) (k' := 16) (by decide +kernel) (by decide +kernel) (by exact ev_ob_3) rfl rfl ?_
              refine ev_r_aload_n (pc := 99) (k := 0) (v := .ref 3) trivial (by decide +kernel) (by exact (ev_lk_st1 e19 (by decide) rfl)) ?_
              refine ev_r_getI (pc := 100) (y := 66) (ci := 7) (f := 6) (fin := 0) (by decide +kernel) (by decide +kernel) (by exact ev_ob_3) rfl ?_
              intro x23 hx23
              refine ev_r_iald (pc := 103) hx23 (by decide +kernel) (by exact ev_ab_16) ?_
              intro x24 hx24
              refine ev_r_putI (pc := 104) (y := 63) (ci := 7) (f := 8) hx24 (by decide +kernel) (by decide +kernel) (by exact ev_ob_3) rfl rfl ?_
              intro s25
              refine ev_r_iconst (pc := 107) (k := 1) (by decide +kernel) ?_
              exact ev_r_ireturn (pc := 108) (x := 1) (v := Int32.ofInt 1) (ty := .boolean) (by decide : ev_bl 1) (by decide +kernel) (by decide +kernel) (ev_ret_bl (by decide : ev_bl 1)) rfl
            · intro c21
              refine ev_r_iconst (pc := 87) (k := 0) (by decide +kernel) ?_
              exact ev_r_ireturn (pc := 88) (x := 0) (v := Int32.ofInt 0) (ty := .boolean) (by decide : ev_bl 0) (by decide +kernel) (by decide +kernel) (ev_ret_bl (by decide : ev_bl 0)) rfl
          · intro K82 hK82
            refine ev_r_jn (Q := fun K => ∀ (s28 : ev_St) (w26 : List (Nat × Value)), ev_lk w26 0 = some (.ref 3) → ev_w none (ev_Mof 112) d 81 w26 [] s28 (K  s28) ev_eI ev_bl) ?_ ?_
            · intro  s28 w26 e27
              refine ev_r_null (pc := 81) (by decide +kernel) ?_
              exact hK82 0 (Or.inl rfl) s28 _ (by exact e27)
            · intro K81 hK81
              refine ev_r_if (pc := 57) (q := .lt) (o := 24) (t := 81) (c := x16 < 0) (by decide +kernel) (ev_k_lt hx16 ev_rng0) (by decide +kernel) ?_ ?_
              · intro c29
                exact hK81  s15 _ (by rfl)
              · intro c29
                refine ev_r_aload_n (pc := 60) (k := 0) (v := .ref 3) trivial (by decide +kernel) (by rfl) ?_
                refine ev_r_getI (pc := 61) (y := 66) (ci := 7) (f := 6) (fin := 0) (by decide +kernel) (by decide +kernel) (by exact ev_ob_3) rfl ?_
                intro x30 hx30
                refine ev_r_bipush (pc := 64) (k := 28) (by decide +kernel) (by decide +kernel) ?_
                refine ev_r_icmp (pc := 66) (q := .ge) (o := 15) (t := 81) (c := 28 ≤ x30) (by decide +kernel) (ev_k_ge hx30 (by decide)) (by decide +kernel) ?_ ?_
                · intro c31
                  exact hK81  s15 _ (by rfl)
                · intro c31
                  refine ev_r_aload_n (pc := 69) (k := 0) (v := .ref 3) trivial (by decide +kernel) (by rfl) ?_
                  refine ev_r_getC (pc := 70) (y := 34) (ci := 7) (f := 4) (fin := 1) (k' := 15) (by decide +kernel) (by decide +kernel) (by exact ev_ob_3) rfl rfl ?_
                  refine ev_r_aload_n (pc := 73) (k := 0) (v := .ref 3) trivial (by decide +kernel) (by rfl) ?_
                  refine ev_r_getI (pc := 74) (y := 66) (ci := 7) (f := 6) (fin := 0) (by decide +kernel) (by decide +kernel) (by exact ev_ob_3) rfl ?_
                  intro x32 hx32
                  refine ev_r_ald15 (pc := 77) hx32 (by decide +kernel) ?_
                  intro r33 hr33
                  refine ev_r_goto (pc := 78) (o := 4) (t := 82) (by decide +kernel) (by decide +kernel) ?_
                  exact hK82 r33 hr33 s15 _ (by rfl)
        · intro c12
          refine ev_r_iconst (pc := 41) (k := 0) (by decide +kernel) ?_
          exact ev_r_ireturn (pc := 42) (x := 0) (v := Int32.ofInt 0) (ty := .boolean) (by decide : ev_bl 0) (by decide +kernel) (by decide +kernel) (ev_ret_bl (by decide : ev_bl 0)) rfl
/-- MendBench$Reader.peek(I)I -/
def jm_84 (Q : Nat) (a0 : Int) (S : ev_St) : Option ((Int) × ev_St) := ev_b (S.2.2.1 3 7) fun r1 => ev_b (S.1 3 8) fun x2 => ev_ck (x2 + a0) fun x3 => ev_if (r1 ≠ 0) (ev_bd (jm_151 Q ((r1 - 1)) x3 S) fun x6 s5 => some (x6, s5))
theorem jt_84 (d : Nat) (hd : 2 ≤ d) (Q : Nat) (a0 : Int) (ha0 : ev_rng a0) (S : ev_St) (x : Int) (S' : ev_St) (hJ : jm_84 Q a0 S = some (x, S')) : ev_Ref d 84 [.ref 3, .int (Int32.ofInt a0)] S (ev_eI x) S' (ev_rng x) := by
  obtain ⟨d, rfl⟩ : ∃ e, d = e + 1 := ⟨d - 1, by omega⟩
  refine ev_ref_of (P := ev_rng) (lv := [(0, .ref 3), (1, .int (Int32.ofInt a0))]) (by decide +kernel) (by (try simp only [ev_sum, ev_nv_cat]); first | done | rfl) (by (try simp only [lv_args, ev_nv_cat]); first | done | rfl) ?_ x S' hJ
  unfold jm_84
  refine ev_r_aload_n (pc := 0) (k := 0) (v := .ref 3) trivial (by decide +kernel) (by rfl) ?_
  refine ev_r_getR (pc := 1) (y := 51) (ci := 7) (f := 7) (fin := 0) (t := 10) (by decide +kernel) (by decide +kernel) (by exact ev_ob_3) rfl rfl ?_
  intro r1 hr1
  have hr1 : r1 = 0 ∨ ev_isOb (r1 - 1) 10 = true := hr1
  refine ev_r_aload_n (pc := 4) (k := 0) (v := .ref 3) trivial (by decide +kernel) (by rfl) ?_
  refine ev_r_getI (pc := 5) (y := 63) (ci := 7) (f := 8) (fin := 0) (by decide +kernel) (by decide +kernel) (by exact ev_ob_3) rfl ?_
  intro x2 hx2
  refine ev_r_iload_n (pc := 8) (k := 1) (v := Int32.ofInt a0) (by decide +kernel) (by rfl) ?_
  refine ev_r_iadd (pc := 9) (by decide +kernel) ?_
  intro x3 hx3
  refine ev_r_chk ?_
  intro c4
  refine ev_r_dr (r := r1) (fun v => [.int (Int32.ofInt x3), v]) c4 ?_
  refine ev_r_virt (pc := 10) (y := 104) (mi := 151) (na := 1) (k := (r1 - 1)) (as := [.int (Int32.ofInt x3)]) (rest := []) (encc := ev_oI) (Q := ev_rng) (fun x S1 h => jt_151 d (by omega) Q ((r1 - 1)) x3 (hr1.resolve_left c4) hx3 S x S1 h) (by exact (hr1.resolve_left c4)) (by decide +kernel) (by decide +kernel) (by decide +kernel) (by decide +kernel) rfl (by (try simp only [ev_sum, ev_nv_cat]); first | done | rfl) ?_
  intro x6 s5 hx6
  show ev_w _ _ _ _ _ [.int (Int32.ofInt x6)] _ _ _ _
  exact ev_r_ireturn (pc := 13) (x := x6) (v := Int32.ofInt x6) (ty := .int) hx6 (by decide +kernel) (by decide +kernel) rfl rfl
/-- MendBench$Reader.countNode()Z -/
def jm_87 (Q : Nat)  (S : ev_St) : Option ((Int) × ev_St) := ev_b (S.1 3 14) fun x1 => ev_ck (x1 + 1) fun x2 => ev_b (ev_pI S 3 14 x2) fun s3 => ev_b (s3.1 3 14) fun x4 => if 150 < x4 then (some (0, s3)) else (some (1, s3))
theorem jt_87 (d : Nat) (hd : 1 ≤ d) (Q : Nat)   (S : ev_St) (x : Int) (S' : ev_St) (hJ : jm_87 Q  S = some (x, S')) : ev_Ref d 87 [.ref 3] S (ev_eI x) S' (ev_bl x) := by
  obtain ⟨d, rfl⟩ : ∃ e, d = e + 1 := ⟨d - 1, by omega⟩
  refine ev_ref_of (P := ev_bl) (lv := [(0, .ref 3)]) (by decide +kernel) (by (try simp only [ev_sum, ev_nv_cat]); first | done | rfl) (by (try simp only [lv_args, ev_nv_cat]); first | done | rfl) ?_ x S' hJ
  unfold jm_87
  refine ev_r_aload_n (pc := 0) (k := 0) (v := .ref 3) trivial (by decide +kernel) (by rfl) ?_
  refine ev_r_dup (pc := 1) rfl (by decide +kernel) ?_
  refine ev_r_getI (pc := 2) (y := 75) (ci := 7) (f := 14) (fin := 0) (by decide +kernel) (by decide +kernel) (by exact ev_ob_3) rfl ?_
  intro x1 hx1
  refine ev_r_iconst (pc := 5) (k := 1) (by decide +kernel) ?_
  refine ev_r_iadd (pc := 6) (by decide +kernel) ?_
  intro x2 hx2
  refine ev_r_putI (pc := 7) (y := 75) (ci := 7) (f := 14) hx2 (by decide +kernel) (by decide +kernel) (by exact ev_ob_3) rfl rfl ?_
  intro s3
  refine ev_r_aload_n (pc := 10) (k := 0) (v := .ref 3) trivial (by decide +kernel) (by rfl) ?_
  refine ev_r_getI (pc := 11) (y := 75) (ci := 7) (f := 14) (fin := 0) (by decide +kernel) (by decide +kernel) (by exact ev_ob_3) rfl ?_
  intro x4 hx4
  refine ev_r_sipush (pc := 14) (k := 150) (by decide +kernel) (by decide +kernel) ?_
  refine ev_r_icmp (pc := 17) (q := .gt) (o := 7) (t := 24) (c := 150 < x4) (by decide +kernel) (ev_k_gt hx4 (by decide)) (by decide +kernel) ?_ ?_
  · intro c5
    refine ev_r_iconst (pc := 24) (k := 0) (by decide +kernel) ?_
    exact ev_r_ireturn (pc := 25) (x := 0) (v := Int32.ofInt 0) (ty := .boolean) (by decide : ev_bl 0) (by decide +kernel) (by decide +kernel) (ev_ret_bl (by decide : ev_bl 0)) rfl
  · intro c5
    refine ev_r_iconst (pc := 20) (k := 1) (by decide +kernel) ?_
    refine ev_r_goto (pc := 21) (o := 4) (t := 25) (by decide +kernel) (by decide +kernel) ?_
    exact ev_r_ireturn (pc := 25) (x := 1) (v := Int32.ofInt 1) (ty := .boolean) (by decide : ev_bl 1) (by decide +kernel) (by decide +kernel) (ev_ret_bl (by decide : ev_bl 1)) rfl
/-- MendBench$Reader.addNode(III)Z -/
def jm_88 (Q : Nat) (a0 : Int) (a1 : Int) (a2 : Int) (S : ev_St) : Option ((Int) × ev_St) := ev_bd (jm_87 Q  S) fun x2 s1 => if x2 ≠ 0 then (ev_b (ev_pI s1 3 13 1) fun s4 => ev_b (s4.2.2.1 3 9) fun r5 => ev_if (r5 ≠ 0) (ev_bd (jm_58 Q ((r5 - 1)) a0 a1 a2 s4) fun x8 s7 => ev_bd (jm_91 Q x8 s7) fun x10 s9 => ev_if (ev_bl x10) (some (x10, s9)))) else (some (0, s1))
theorem jt_88 (d : Nat) (hd : 3 ≤ d) (Q : Nat) (a0 : Int) (a1 : Int) (a2 : Int) (ha0 : ev_rng a0) (ha1 : ev_rng a1) (ha2 : ev_rng a2) (S : ev_St) (x : Int) (S' : ev_St) (hJ : jm_88 Q a0 a1 a2 S = some (x, S')) : ev_Ref d 88 [.ref 3, .int (Int32.ofInt a0), .int (Int32.ofInt a1), .int (Int32.ofInt a2)] S (ev_eI x) S' (ev_bl x) := by
  obtain ⟨d, rfl⟩ : ∃ e, d = e + 1 := ⟨d - 1, by omega⟩
  refine ev_ref_of (P := ev_bl) (lv := [(0, .ref 3), (1, .int (Int32.ofInt a0)), (2, .int (Int32.ofInt a1)), (3, .int (Int32.ofInt a2))]) (by decide +kernel) (by (try simp only [ev_sum, ev_nv_cat]); first | done | rfl) (by (try simp only [lv_args, ev_nv_cat]); first | done | rfl) ?_ x S' hJ
  unfold jm_88
  refine ev_r_aload_n (pc := 0) (k := 0) (v := .ref 3) trivial (by decide +kernel) (by rfl) ?_
  refine ev_r_virt (pc := 1) (y := 162) (mi := 87) (na := 0) (k := 3) (as := []) (rest := []) (encc := ev_oI) (Q := ev_bl) (fun x S1 h => jt_87 d (by omega) Q   S x S1 h) (by exact ev_ob_3) (by decide +kernel) (by decide +kernel) (by decide +kernel) (by decide +kernel) rfl (by (try simp only [ev_sum, ev_nv_cat]); first | done | rfl) ?_
  intro x2 s1 hx2
  replace hx2 := ev_bl_rng hx2
  show ev_w _ _ _ _ _ [.int (Int32.ofInt x2)] _ _ _ _
  refine ev_r_if (pc := 4) (q := .ne) (o := 5) (t := 9) (c := x2 ≠ 0) (by decide +kernel) (ev_k_ne hx2 ev_rng0) (by decide +kernel) ?_ ?_
  · intro c3
    refine ev_r_aload_n (pc := 9) (k := 0) (v := .ref 3) trivial (by decide +kernel) (by rfl) ?_
    refine ev_r_iconst (pc := 10) (k := 1) (by decide +kernel) ?_
    refine ev_r_putI (pc := 11) (y := 165) (ci := 7) (f := 13) (by decide) (by decide +kernel) (by decide +kernel) (by exact ev_ob_3) rfl (ev_fit_bl (by decide : ev_bl 1)) ?_
    intro s4
    refine ev_r_aload_n (pc := 14) (k := 0) (v := .ref 3) trivial (by decide +kernel) (by rfl) ?_
    refine ev_r_aload_n (pc := 15) (k := 0) (v := .ref 3) trivial (by decide +kernel) (by rfl) ?_
    refine ev_r_getR (pc := 16) (y := 55) (ci := 7) (f := 9) (fin := 0) (t := 5) (by decide +kernel) (by decide +kernel) (by exact ev_ob_3) rfl rfl ?_
    intro r5 hr5
    have hr5 : r5 = 0 ∨ ev_isOb (r5 - 1) 5 = true := hr5
    refine ev_r_iload_n (pc := 19) (k := 1) (v := Int32.ofInt a0) (by decide +kernel) (by rfl) ?_
    refine ev_r_iload_n (pc := 20) (k := 2) (v := Int32.ofInt a1) (by decide +kernel) (by rfl) ?_
    refine ev_r_iload_n (pc := 21) (k := 3) (v := Int32.ofInt a2) (by decide +kernel) (by rfl) ?_
    refine ev_r_chk ?_
    intro c6
    refine ev_r_dr (r := r5) (fun v => [.int (Int32.ofInt a2), .int (Int32.ofInt a1), .int (Int32.ofInt a0), v, .ref 3]) c6 ?_
    refine ev_r_virt (pc := 22) (y := 168) (mi := 58) (na := 3) (k := (r5 - 1)) (as := [.int (Int32.ofInt a0), .int (Int32.ofInt a1), .int (Int32.ofInt a2)]) (rest := [.ref 3]) (encc := ev_oI) (Q := ev_rng) (fun x S1 h => jt_58 d (by omega) Q ((r5 - 1)) a0 a1 a2 (hr5.resolve_left c6) ha0 ha1 ha2 s4 x S1 h) (by exact (hr5.resolve_left c6)) (by decide +kernel) (by decide +kernel) (by decide +kernel) (by decide +kernel) rfl (by (try simp only [ev_sum, ev_nv_cat]); first | done | rfl) ?_
    intro x8 s7 hx8
    show ev_w _ _ _ _ _ [.int (Int32.ofInt x8), .ref 3] _ _ _ _
    refine ev_r_virt (pc := 25) (y := 172) (mi := 91) (na := 1) (k := 3) (as := [.int (Int32.ofInt x8)]) (rest := []) (encc := ev_oI) (Q := ev_bl) (fun x S1 h => jt_91 d (by omega) Q x8 hx8 s7 x S1 h) (by exact ev_ob_3) (by decide +kernel) (by decide +kernel) (by decide +kernel) (by decide +kernel) rfl (by (try simp only [ev_sum, ev_nv_cat]); first | done | rfl) ?_
    intro x10 s9 hx10
    replace hx10 := ev_bl_rng hx10
    show ev_w _ _ _ _ _ [.int (Int32.ofInt x10)] _ _ _ _
    refine ev_r_chk ?_
    intro c11
    exact ev_r_ireturn (pc := 28) (x := x10) (v := Int32.ofInt x10) (ty := .boolean) c11 (by decide +kernel) (by decide +kernel) (ev_ret_bl c11) rfl
  · intro c3
    refine ev_r_iconst (pc := 7) (k := 0) (by decide +kernel) ?_
    exact ev_r_ireturn (pc := 8) (x := 0) (v := Int32.ofInt 0) (ty := .boolean) (by decide : ev_bl 0) (by decide +kernel) (by decide +kernel) (ev_ret_bl (by decide : ev_bl 0)) rfl
/-- MendBench$Reader.readVerb()Z -/
def jm_108 (Q : Nat)  (S : ev_St) : Option ((Int) × ev_St) := ev_bd (jm_84 Q 1 S) fun x2 s1 => ev_bd (jm_84 Q 2 s1) fun x4 s3 => if x4 ≠ 41 then (some (0, s3)) else (ev_jn (fun  (s9 : ev_St) => ev_b (s9.1 3 8) fun x10 => ev_ck (x10 + 3) fun x11 => ev_b (ev_pI s9 3 8 x11) fun s12 => ev_jn (fun (x13 : Int) (s16 : ev_St) => ev_bd (jm_88 Q x13 0 0 s16) fun x18 s17 => ev_b (ev_pI s17 3 13 0) fun s19 => ev_if (ev_bl x18) (some (x18, s19))) fun K71 => if x2 ≠ 70 then (if x2 ≠ 67 then (K71 12 s12) else (K71 11 s12)) else (K71 10 s12)) fun K36 => if x2 = 70 then (K36  s3) else (if x2 = 67 then (K36  s3) else (if x2 = 83 then (K36  s3) else (some (0, s3)))))
theorem jt_108 (d : Nat) (hd : 4 ≤ d) (Q : Nat)   (S : ev_St) (x : Int) (S' : ev_St) (hJ : jm_108 Q  S = some (x, S')) : ev_Ref d 108 [.ref 3] S (ev_eI x) S' (ev_bl x) := by
  obtain ⟨d, rfl⟩ : ∃ e, d = e + 1 := ⟨d - 1, by omega⟩
  refine ev_ref_of (P := ev_bl) (lv := [(0, .ref 3)]) (by decide +kernel) (by (try simp only [ev_sum, ev_nv_cat]); first | done | rfl) (by (try simp only [lv_args, ev_nv_cat]); first | done | rfl) ?_ x S' hJ
  unfold jm_108
  refine ev_r_aload_n (pc := 0) (k := 0) (v := .ref 3) trivial (by decide +kernel) (by rfl) ?_
  refine ev_r_iconst (pc := 1) (k := 1) (by decide +kernel) ?_
  refine ev_r_virt (pc := 2) (y := 108) (mi := 84) (na := 1) (k := 3) (as := [.int (Int32.ofInt 1)]) (rest := []) (encc := ev_oI) (Q := ev_rng) (fun x S1 h => jt_84 d (by omega) Q 1 (by decide) S x S1 h) (by exact ev_ob_3) (by decide +kernel) (by decide +kernel) (by decide +kernel) (by decide +kernel) rfl (by (try simp only [ev_sum, ev_nv_cat]); first | done | rfl) ?_
  intro x2 s1 hx2
  show ev_w _ _ _ _ _ [.int (Int32.ofInt x2)] _ _ _ _
  refine ev_r_istore_n (pc := 5) (k := 1) (by decide +kernel) (by decide +kernel) rfl ?_
  refine ev_r_aload_n (pc := 6) (k := 0) (v := .ref 3) trivial (by decide +kernel) (by exact (ev_lk_st1 (by rfl) (by decide) rfl)) ?_
  refine ev_r_iconst (pc := 7) (k := 2) (by decide +kernel) ?_
  refine ev_r_virt (pc := 8) (y := 108) (mi := 84) (na := 1) (k := 3) (as := [.int (Int32.ofInt 2)]) (rest := []) (encc := ev_oI) (Q := ev_rng) (fun x S1 h => jt_84 d (by omega) Q 2 (by decide) s1 x S1 h) (by exact ev_ob_3) (by decide +kernel) (by decide +kernel) (by decide +kernel) (by decide +kernel) rfl (by (try simp only [ev_sum, ev_nv_cat]); first | done | rfl) ?_
  intro x4 s3 hx4
  show ev_w _ _ _ _ _ [.int (Int32.ofInt x4)] _ _ _ _
  refine ev_r_bipush (pc := 11) (k := 41) (by decide +kernel) (by decide +kernel) ?_
  refine ev_r_icmp (pc := 13) (q := .ne) (o := 21) (t := 34) (c := x4 ≠ 41) (by decide +kernel) (ev_k_ne hx4 (by decide)) (by decide +kernel) ?_ ?_
  · intro c5
    refine ev_r_iconst (pc := 34) (k := 0) (by decide +kernel) ?_
    exact ev_r_ireturn (pc := 35) (x := 0) (v := Int32.ofInt 0) (ty := .boolean) (by decide : ev_bl 0) (by decide +kernel) (by decide +kernel) (ev_ret_bl (by decide : ev_bl 0)) rfl
  · intro c5
    refine ev_r_iload_n (pc := 16) (k := 1) (v := Int32.ofInt x2) (by decide +kernel) (by exact ev_lk_st1_self) ?_
    refine ev_r_bipush (pc := 17) (k := 70) (by decide +kernel) (by decide +kernel) ?_
    refine ev_r_jn (Q := fun K => ∀ (s9 : ev_St) (w6 : List (Nat × Value)), ev_lk w6 0 = some (.ref 3) → ev_lk w6 1 = some (.int (Int32.ofInt x2)) → ev_w none (ev_Mof 108) d 36 w6 [] s9 (K  s9) ev_eI ev_bl) ?_ ?_
    · intro  s9 w6 e7 e8
      refine ev_r_aload_n (pc := 36) (k := 0) (v := .ref 3) trivial (by decide +kernel) (by exact e7) ?_
      refine ev_r_dup (pc := 37) rfl (by decide +kernel) ?_
      refine ev_r_getI (pc := 38) (y := 63) (ci := 7) (f := 8) (fin := 0) (by decide +kernel) (by decide +kernel) (by exact ev_ob_3) rfl ?_
      intro x10 hx10
      refine ev_r_iconst (pc := 41) (k := 3) (by decide +kernel) ?_
      refine ev_r_iadd (pc := 42) (by decide +kernel) ?_
      intro x11 hx11
      refine ev_r_putI (pc := 43) (y := 63) (ci := 7) (f := 8) hx11 (by decide +kernel) (by decide +kernel) (by exact ev_ob_3) rfl rfl ?_
      intro s12
      refine ev_r_aload_n (pc := 46) (k := 0) (v := .ref 3) trivial (by decide +kernel) (by exact e7) ?_
      refine ev_r_iload_n (pc := 47) (k := 1) (v := Int32.ofInt x2) (by decide +kernel) (by exact e8) ?_
      refine ev_r_bipush (pc := 48) (k := 70) (by decide +kernel) (by decide +kernel) ?_
      refine ev_r_jn (Q := fun K => ∀ (x13 : Int) (hx13 : ev_rng x13), ∀ (s16 : ev_St) (w14 : List (Nat × Value)), ev_lk w14 0 = some (.ref 3) → ev_w none (ev_Mof 108) d 71 w14 [.int (Int32.ofInt x13), .ref 3] s16 (K x13 s16) ev_eI ev_bl) ?_ ?_
      · intro x13 hx13 s16 w14 e15
        refine ev_r_iconst (pc := 71) (k := 0) (by decide +kernel) ?_
        refine ev_r_iconst (pc := 72) (k := 0) (by decide +kernel) ?_
        refine ev_r_virt (pc := 73) (y := 155) (mi := 88) (na := 3) (k := 3) (as := [.int (Int32.ofInt x13), .int (Int32.ofInt 0), .int (Int32.ofInt 0)]) (rest := []) (encc := ev_oI) (Q := ev_bl) (fun x S1 h => jt_88 d (by omega) Q x13 0 0 hx13 (by decide) (by decide) s16 x S1 h) (by exact ev_ob_3) (by decide +kernel) (by decide +kernel) (by decide +kernel) (by decide +kernel) rfl (by (try simp only [ev_sum, ev_nv_cat]); first | done | rfl) ?_
        intro x18 s17 hx18
        replace hx18 := ev_bl_rng hx18
        show ev_w _ _ _ _ _ [.int (Int32.ofInt x18)] _ _ _ _
        refine ev_r_istore_n (pc := 76) (k := 2) (by decide +kernel) (by decide +kernel) rfl ?_
        refine ev_r_aload_n (pc := 77) (k := 0) (v := .ref 3) trivial (by decide +kernel) (by exact (ev_l1 e15 (by decide) (by decide))) ?_
        refine ev_r_iconst (pc := 78) (k := 0) (by decide +kernel) ?_
        refine ev_r_putI (pc := 79) (y := 165) (ci := 7) (f := 13) (by decide) (by decide +kernel) (by decide +kernel) (by exact ev_ob_3) rfl (ev_fit_bl (by decide : ev_bl 0)) ?_
        intro s19
        refine ev_r_iload_n (pc := 82) (k := 2) (v := Int32.ofInt x18) (by decide +kernel) (by exact ev_lk_st1_self) ?_
        refine ev_r_chk ?_
        intro c20
        exact ev_r_ireturn (pc := 83) (x := x18) (v := Int32.ofInt x18) (ty := .boolean) c20 (by decide +kernel) (by decide +kernel) (ev_ret_bl c20) rfl
      · intro K71 hK71
        refine ev_r_icmp (pc := 50) (q := .ne) (o := 8) (t := 58) (c := x2 ≠ 70) (by decide +kernel) (ev_k_ne hx2 (by decide)) (by decide +kernel) ?_ ?_
        · intro c21
          refine ev_r_iload_n (pc := 58) (k := 1) (v := Int32.ofInt x2) (by decide +kernel) (by exact e8) ?_
          refine ev_r_bipush (pc := 59) (k := 67) (by decide +kernel) (by decide +kernel) ?_
          refine ev_r_icmp (pc := 61) (q := .ne) (o := 8) (t := 69) (c := x2 ≠ 67) (by decide +kernel) (ev_k_ne hx2 (by decide)) (by decide +kernel) ?_ ?_
          · intro c22
            refine ev_r_bipush (pc := 69) (k := 12) (by decide +kernel) (by decide +kernel) ?_
            exact hK71 12 (by decide) s12 _ (by exact e7)
          · intro c22
            refine ev_r_bipush (pc := 64) (k := 11) (by decide +kernel) (by decide +kernel) ?_
            refine ev_r_goto (pc := 66) (o := 5) (t := 71) (by decide +kernel) (by decide +kernel) ?_
            exact hK71 11 (by decide) s12 _ (by exact e7)
        · intro c21
          refine ev_r_bipush (pc := 53) (k := 10) (by decide +kernel) (by decide +kernel) ?_
          refine ev_r_goto (pc := 55) (o := 16) (t := 71) (by decide +kernel) (by decide +kernel) ?_
          exact hK71 10 (by decide) s12 _ (by exact e7)
    · intro K36 hK36
      refine ev_r_icmp (pc := 19) (q := .eq) (o := 17) (t := 36) (c := x2 = 70) (by decide +kernel) (ev_k_eq hx2 (by decide)) (by decide +kernel) ?_ ?_
      · intro c23
        exact hK36  s3 _ (by exact (ev_lk_st1 (by rfl) (by decide) rfl)) (by exact ev_lk_st1_self)
      · intro c23
        refine ev_r_iload_n (pc := 22) (k := 1) (v := Int32.ofInt x2) (by decide +kernel) (by exact ev_lk_st1_self) ?_
        refine ev_r_bipush (pc := 23) (k := 67) (by decide +kernel) (by decide +kernel) ?_
        refine ev_r_icmp (pc := 25) (q := .eq) (o := 11) (t := 36) (c := x2 = 67) (by decide +kernel) (ev_k_eq hx2 (by decide)) (by decide +kernel) ?_ ?_
        · intro c24
          exact hK36  s3 _ (by exact (ev_lk_st1 (by rfl) (by decide) rfl)) (by exact ev_lk_st1_self)
        · intro c24
          refine ev_r_iload_n (pc := 28) (k := 1) (v := Int32.ofInt x2) (by decide +kernel) (by exact ev_lk_st1_self) ?_
          refine ev_r_bipush (pc := 29) (k := 83) (by decide +kernel) (by decide +kernel) ?_
          refine ev_r_icmp (pc := 31) (q := .eq) (o := 5) (t := 36) (c := x2 = 83) (by decide +kernel) (ev_k_eq hx2 (by decide)) (by decide +kernel) ?_ ?_
          · intro c25
            exact hK36  s3 _ (by exact (ev_lk_st1 (by rfl) (by decide) rfl)) (by exact ev_lk_st1_self)
          · intro c25
            refine ev_r_iconst (pc := 34) (k := 0) (by decide +kernel) ?_
            exact ev_r_ireturn (pc := 35) (x := 0) (v := Int32.ofInt 0) (ty := .boolean) (by decide : ev_bl 0) (by decide +kernel) (by decide +kernel) (ev_ret_bl (by decide : ev_bl 0)) rfl
/-- MendBench$Reader.beginPart(III)Z -/
def jm_103 (Q : Nat) (a0 : Int) (a1 : Int) (a2 : Int) (S : ev_St) : Option ((Int) × ev_St) := ev_b (S.1 3 8) fun x1 => ev_ck (x1 + a0) fun x2 => ev_b (ev_pI S 3 8 x2) fun s3 => ev_bd (jm_87 Q  s3) fun x5 s4 => if x5 = 0 then (some (0, s4)) else (ev_bd (jm_98 Q a1 a2 0 s4) fun x8 s7 => if x8 = 0 then (some (0, s7)) else (some (1, s7)))
theorem jt_103 (d : Nat) (hd : 2 ≤ d) (Q : Nat) (a0 : Int) (a1 : Int) (a2 : Int) (ha0 : ev_rng a0) (ha1 : ev_rng a1) (ha2 : ev_rng a2) (S : ev_St) (x : Int) (S' : ev_St) (hJ : jm_103 Q a0 a1 a2 S = some (x, S')) : ev_Ref d 103 [.ref 3, .int (Int32.ofInt a0), .int (Int32.ofInt a1), .int (Int32.ofInt a2)] S (ev_eI x) S' (ev_bl x) := by
  obtain ⟨d, rfl⟩ : ∃ e, d = e + 1 := ⟨d - 1, by omega⟩
  refine ev_ref_of (P := ev_bl) (lv := [(0, .ref 3), (1, .int (Int32.ofInt a0)), (2, .int (Int32.ofInt a1)), (3, .int (Int32.ofInt a2))]) (by decide +kernel) (by (try simp only [ev_sum, ev_nv_cat]); first | done | rfl) (by (try simp only [lv_args, ev_nv_cat]); first | done | rfl) ?_ x S' hJ
  unfold jm_103
  refine ev_r_aload_n (pc := 0) (k := 0) (v := .ref 3) trivial (by decide +kernel) (by rfl) ?_
  refine ev_r_dup (pc := 1) rfl (by decide +kernel) ?_
  refine ev_r_getI (pc := 2) (y := 63) (ci := 7) (f := 8) (fin := 0) (by decide +kernel) (by decide +kernel) (by exact ev_ob_3) rfl ?_
  intro x1 hx1
  refine ev_r_iload_n (pc := 5) (k := 1) (v := Int32.ofInt a0) (by decide +kernel) (by rfl) ?_
  refine ev_r_iadd (pc := 6) (by decide +kernel) ?_
  intro x2 hx2
  refine ev_r_putI (pc := 7) (y := 63) (ci := 7) (f := 8) hx2 (by decide +kernel) (by decide +kernel) (by exact ev_ob_3) rfl rfl ?_
  intro s3
  refine ev_r_aload_n (pc := 10) (k := 0) (v := .ref 3) trivial (by decide +kernel) (by rfl) ?_
  refine ev_r_virt (pc := 11) (y := 162) (mi := 87) (na := 0) (k := 3) (as := []) (rest := []) (encc := ev_oI) (Q := ev_bl) (fun x S1 h => jt_87 d (by omega) Q   s3 x S1 h) (by exact ev_ob_3) (by decide +kernel) (by decide +kernel) (by decide +kernel) (by decide +kernel) rfl (by (try simp only [ev_sum, ev_nv_cat]); first | done | rfl) ?_
  intro x5 s4 hx5
  replace hx5 := ev_bl_rng hx5
  show ev_w _ _ _ _ _ [.int (Int32.ofInt x5)] _ _ _ _
  refine ev_r_if (pc := 14) (q := .eq) (o := 17) (t := 31) (c := x5 = 0) (by decide +kernel) (ev_k_eq hx5 ev_rng0) (by decide +kernel) ?_ ?_
  · intro c6
    refine ev_r_iconst (pc := 31) (k := 0) (by decide +kernel) ?_
    exact ev_r_ireturn (pc := 32) (x := 0) (v := Int32.ofInt 0) (ty := .boolean) (by decide : ev_bl 0) (by decide +kernel) (by decide +kernel) (ev_ret_bl (by decide : ev_bl 0)) rfl
  · intro c6
    refine ev_r_aload_n (pc := 17) (k := 0) (v := .ref 3) trivial (by decide +kernel) (by rfl) ?_
    refine ev_r_iload_n (pc := 18) (k := 2) (v := Int32.ofInt a1) (by decide +kernel) (by rfl) ?_
    refine ev_r_iload_n (pc := 19) (k := 3) (v := Int32.ofInt a2) (by decide +kernel) (by rfl) ?_
    refine ev_r_iconst (pc := 20) (k := 0) (by decide +kernel) ?_
    refine ev_r_virt (pc := 21) (y := 83) (mi := 98) (na := 3) (k := 3) (as := [.int (Int32.ofInt a1), .int (Int32.ofInt a2), .int (Int32.ofInt 0)]) (rest := []) (encc := ev_oI) (Q := ev_bl) (fun x S1 h => jt_98 d (by omega) Q a1 a2 0 ha1 ha2 (by decide) s4 x S1 h) (by exact ev_ob_3) (by decide +kernel) (by decide +kernel) (by decide +kernel) (by decide +kernel) rfl (by (try simp only [ev_sum, ev_nv_cat]); first | done | rfl) ?_
    intro x8 s7 hx8
    replace hx8 := ev_bl_rng hx8
    show ev_w _ _ _ _ _ [.int (Int32.ofInt x8)] _ _ _ _
    refine ev_r_if (pc := 24) (q := .eq) (o := 7) (t := 31) (c := x8 = 0) (by decide +kernel) (ev_k_eq hx8 ev_rng0) (by decide +kernel) ?_ ?_
    · intro c9
      refine ev_r_iconst (pc := 31) (k := 0) (by decide +kernel) ?_
      exact ev_r_ireturn (pc := 32) (x := 0) (v := Int32.ofInt 0) (ty := .boolean) (by decide : ev_bl 0) (by decide +kernel) (by decide +kernel) (ev_ret_bl (by decide : ev_bl 0)) rfl
    · intro c9
      refine ev_r_iconst (pc := 27) (k := 1) (by decide +kernel) ?_
      refine ev_r_goto (pc := 28) (o := 4) (t := 32) (by decide +kernel) (by decide +kernel) ?_
      exact ev_r_ireturn (pc := 32) (x := 1) (v := Int32.ofInt 1) (ty := .boolean) (by decide : ev_bl 1) (by decide +kernel) (by decide +kernel) (ev_ret_bl (by decide : ev_bl 1)) rfl
/-- MendBench$Reader.beginGroup()Z -/
def jm_104 (Q : Nat)  (S : ev_St) : Option ((Int) × ev_St) := ev_b (S.2.2.1 3 9) fun r1 => ev_if (r1 ≠ 0) (ev_b (S.1 ((r1 - 1)) 12) fun x3 => if x3 < 9 then (ev_b (S.2.2.1 3 9) fun r5 => ev_if (r5 ≠ 0) (ev_b (S.1 ((r5 - 1)) 12) fun x7 => ev_ck (x7 + 1) fun x8 => ev_if (r5 ≠ 0) (ev_b (ev_pI S ((r5 - 1)) 12 x8) fun s10 => ev_b (s10.2.2.1 3 9) fun r11 => ev_if (r11 ≠ 0) (ev_b (s10.1 ((r11 - 1)) 12) fun x13 => ev_bd (jm_103 Q 0 18 x13 s10) fun x15 s14 => ev_if (ev_bl x15) (some (x15, s14)))))) else (some (0, S)))
theorem jt_104 (d : Nat) (hd : 3 ≤ d) (Q : Nat)   (S : ev_St) (x : Int) (S' : ev_St) (hJ : jm_104 Q  S = some (x, S')) : ev_Ref d 104 [.ref 3] S (ev_eI x) S' (ev_bl x) := by
  obtain ⟨d, rfl⟩ : ∃ e, d = e + 1 := ⟨d - 1, by omega⟩
  refine ev_ref_of (P := ev_bl) (lv := [(0, .ref 3)]) (by decide +kernel) (by (try simp only [ev_sum, ev_nv_cat]); first | done | rfl) (by (try simp only [lv_args, ev_nv_cat]); first | done | rfl) ?_ x S' hJ
  unfold jm_104
  refine ev_r_aload_n (pc := 0) (k := 0) (v := .ref 3) trivial (by decide +kernel) (by rfl) ?_
  refine ev_r_getR (pc := 1) (y := 55) (ci := 7) (f := 9) (fin := 0) (t := 5) (by decide +kernel) (by decide +kernel) (by exact ev_ob_3) rfl rfl ?_
  intro r1 hr1
  have hr1 : r1 = 0 ∨ ev_isOb (r1 - 1) 5 = true := hr1
  refine ev_r_chk ?_
  intro c2
  refine ev_r_dr (r := r1) (fun v => [v]) c2 ?_
  refine ev_r_getI (pc := 4) (y := 274) (ci := 5) (f := 12) (fin := 0) (by decide +kernel) (by decide +kernel) (by exact (hr1.resolve_left c2)) rfl ?_
  intro x3 hx3
  refine ev_r_bipush (pc := 7) (k := 9) (by decide +kernel) (by decide +kernel) ?_
  refine ev_r_icmp (pc := 9) (q := .lt) (o := 5) (t := 14) (c := x3 < 9) (by decide +kernel) (ev_k_lt hx3 (by decide)) (by decide +kernel) ?_ ?_
  · intro c4
    refine ev_r_aload_n (pc := 14) (k := 0) (v := .ref 3) trivial (by decide +kernel) (by rfl) ?_
    refine ev_r_getR (pc := 15) (y := 55) (ci := 7) (f := 9) (fin := 0) (t := 5) (by decide +kernel) (by decide +kernel) (by exact ev_ob_3) rfl rfl ?_
    intro r5 hr5
    have hr5 : r5 = 0 ∨ ev_isOb (r5 - 1) 5 = true := hr5
    refine ev_r_dup (pc := 18) (ev_nv_cat _) (by decide +kernel) ?_
    refine ev_r_chk ?_
    intro c6
    refine ev_r_dr (r := r5) (fun v => [v, ev_nv r5]) c6 ?_
    refine ev_r_getI (pc := 19) (y := 274) (ci := 5) (f := 12) (fin := 0) (by decide +kernel) (by decide +kernel) (by exact (hr5.resolve_left c6)) rfl ?_
    intro x7 hx7
    refine ev_r_iconst (pc := 22) (k := 1) (by decide +kernel) ?_
    refine ev_r_iadd (pc := 23) (by decide +kernel) ?_
    intro x8 hx8
    refine ev_r_chk ?_
    intro c9
    refine ev_r_dr (r := r5) (fun v => [.int (Int32.ofInt x8), v]) c9 ?_
    refine ev_r_putI (pc := 24) (y := 274) (ci := 5) (f := 12) hx8 (by decide +kernel) (by decide +kernel) (by exact (hr5.resolve_left c9)) rfl rfl ?_
    intro s10
    refine ev_r_aload_n (pc := 27) (k := 0) (v := .ref 3) trivial (by decide +kernel) (by rfl) ?_
    refine ev_r_iconst (pc := 28) (k := 0) (by decide +kernel) ?_
    refine ev_r_bipush (pc := 29) (k := 18) (by decide +kernel) (by decide +kernel) ?_
    refine ev_r_aload_n (pc := 31) (k := 0) (v := .ref 3) trivial (by decide +kernel) (by rfl) ?_
    refine ev_r_getR (pc := 32) (y := 55) (ci := 7) (f := 9) (fin := 0) (t := 5) (by decide +kernel) (by decide +kernel) (by exact ev_ob_3) rfl rfl ?_
    intro r11 hr11
    have hr11 : r11 = 0 ∨ ev_isOb (r11 - 1) 5 = true := hr11
    refine ev_r_chk ?_
    intro c12
    refine ev_r_dr (r := r11) (fun v => [v, .int (Int32.ofInt 18), .int (Int32.ofInt 0), .ref 3]) c12 ?_
    refine ev_r_getI (pc := 35) (y := 274) (ci := 5) (f := 12) (fin := 0) (by decide +kernel) (by decide +kernel) (by exact (hr11.resolve_left c12)) rfl ?_
    intro x13 hx13
    refine ev_r_virt (pc := 38) (y := 256) (mi := 103) (na := 3) (k := 3) (as := [.int (Int32.ofInt 0), .int (Int32.ofInt 18), .int (Int32.ofInt x13)]) (rest := []) (encc := ev_oI) (Q := ev_bl) (fun x S1 h => jt_103 d (by omega) Q 0 18 x13 (by decide) (by decide) hx13 s10 x S1 h) (by exact ev_ob_3) (by decide +kernel) (by decide +kernel) (by decide +kernel) (by decide +kernel) rfl (by (try simp only [ev_sum, ev_nv_cat]); first | done | rfl) ?_
    intro x15 s14 hx15
    replace hx15 := ev_bl_rng hx15
    show ev_w _ _ _ _ _ [.int (Int32.ofInt x15)] _ _ _ _
    refine ev_r_chk ?_
    intro c16
    exact ev_r_ireturn (pc := 41) (x := x15) (v := Int32.ofInt x15) (ty := .boolean) c16 (by decide +kernel) (by decide +kernel) (ev_ret_bl c16) rfl
  · intro c4
    refine ev_r_iconst (pc := 12) (k := 0) (by decide +kernel) ?_
    exact ev_r_ireturn (pc := 13) (x := 0) (v := Int32.ofInt 0) (ty := .boolean) (by decide : ev_bl 0) (by decide +kernel) (by decide +kernel) (ev_ret_bl (by decide : ev_bl 0)) rfl
/-- MendBench$Reader.readAngle()Z -/
def jm_105 (Q : Nat)  (S : ev_St) : Option ((Int) × ev_St) := ev_bd (jm_84 Q 2 S) fun x2 s1 => if x2 ≠ 61 then (if x2 ≠ 33 then (ev_bd (jm_209 Q x2 s1) fun x6 s5 => if x6 = 0 then (some (0, s5)) else (ev_bd (jm_84 Q 3 s5) fun x9 s8 => if x9 ≠ 62 then (some (0, s8)) else (ev_b (s8.2.2.1 3 9) fun r11 => ev_if (r11 ≠ 0) (ev_ck (x2 - 97) fun x13 => ev_if ((0 : Int) ≤ x13 ∧ x13 < (ev_aln (((r11 - 1) + 11)) : Int)) (ev_b (s8.1 (((r11 - 1) + 11)) (Int.toNat x13)) fun x14 => if x14 = 0 then (ev_b (s8.1 3 8) fun x16 => ev_ck (x16 + 4) fun x17 => ev_b (ev_pI s8 3 8 x17) fun s18 => ev_bd (jm_104 Q  s18) fun x20 s19 => ev_b (s19.2.2.1 3 9) fun r21 => ev_if (r21 ≠ 0) (ev_ck (x2 - 97) fun x23 => ev_b (s19.2.2.1 3 9) fun r24 => ev_if (r24 ≠ 0) (ev_b (s19.1 ((r24 - 1)) 12) fun x26 => ev_if ((0 : Int) ≤ x23 ∧ x23 < (ev_aln (((r21 - 1) + 11)) : Int)) (ev_b (ev_pI s19 (((r21 - 1) + 11)) (Int.toNat x23) x26) fun s27 => ev_if (ev_bl x20) (some (x20, s27)))))) else (some (0, s8))))))) else (ev_bd (jm_103 Q 3 23 0 s1) fun x30 s29 => ev_if (ev_bl x30) (some (x30, s29)))) else (ev_bd (jm_103 Q 3 22 0 s1) fun x33 s32 => ev_if (ev_bl x33) (some (x33, s32)))
theorem jt_105 (d : Nat) (hd : 4 ≤ d) (Q : Nat)   (S : ev_St) (x : Int) (S' : ev_St) (hJ : jm_105 Q  S = some (x, S')) : ev_Ref d 105 [.ref 3] S (ev_eI x) S' (ev_bl x) := by
  obtain ⟨d, rfl⟩ : ∃ e, d = e + 1 := ⟨d - 1, by omega⟩
  refine ev_ref_of (P := ev_bl) (lv := [(0, .ref 3)]) (by decide +kernel) (by (try simp only [ev_sum, ev_nv_cat]); first | done | rfl) (by (try simp only [lv_args, ev_nv_cat]); first | done | rfl) ?_ x S' hJ
  unfold jm_105
  refine ev_r_aload_n (pc := 0) (k := 0) (v := .ref 3) trivial (by decide +kernel) (by rfl) ?_
  refine ev_r_iconst (pc := 1) (k := 2) (by decide +kernel) ?_
  refine ev_r_virt (pc := 2) (y := 108) (mi := 84) (na := 1) (k := 3) (as := [.int (Int32.ofInt 2)]) (rest := []) (encc := ev_oI) (Q := ev_rng) (fun x S1 h => jt_84 d (by omega) Q 2 (by decide) S x S1 h) (by exact ev_ob_3) (by decide +kernel) (by decide +kernel) (by decide +kernel) (by decide +kernel) rfl (by (try simp only [ev_sum, ev_nv_cat]); first | done | rfl) ?_
  intro x2 s1 hx2
  show ev_w _ _ _ _ _ [.int (Int32.ofInt x2)] _ _ _ _
  refine ev_r_istore_n (pc := 5) (k := 1) (by decide +kernel) (by decide +kernel) rfl ?_
  refine ev_r_iload_n (pc := 6) (k := 1) (v := Int32.ofInt x2) (by decide +kernel) (by exact ev_lk_st1_self) ?_
  refine ev_r_bipush (pc := 7) (k := 61) (by decide +kernel) (by decide +kernel) ?_
  refine ev_r_icmp (pc := 9) (q := .ne) (o := 12) (t := 21) (c := x2 ≠ 61) (by decide +kernel) (ev_k_ne hx2 (by decide)) (by decide +kernel) ?_ ?_
  · intro c3
    refine ev_r_iload_n (pc := 21) (k := 1) (v := Int32.ofInt x2) (by decide +kernel) (by exact ev_lk_st1_self) ?_
    refine ev_r_bipush (pc := 22) (k := 33) (by decide +kernel) (by decide +kernel) ?_
    refine ev_r_icmp (pc := 24) (q := .ne) (o := 12) (t := 36) (c := x2 ≠ 33) (by decide +kernel) (ev_k_ne hx2 (by decide)) (by decide +kernel) ?_ ?_
    · intro c4
      refine ev_r_iload_n (pc := 36) (k := 1) (v := Int32.ofInt x2) (by decide +kernel) (by exact ev_lk_st1_self) ?_
      refine ev_r_stat (pc := 37) (y := 43) (kind := 5) (mi := 209) (na := 1) (as := [.int (Int32.ofInt x2)]) (rest := []) (encc := ev_oI) (Q := ev_bl) (fun x S1 h => jt_209 d (by omega) Q x2 hx2 s1 x S1 h) (Or.inr (Or.inl rfl)) (by decide +kernel) (by decide +kernel) (by decide +kernel) (by decide +kernel) rfl (by (try simp only [ev_sum, ev_nv_cat]); first | done | rfl) ?_
      intro x6 s5 hx6
      replace hx6 := ev_bl_rng hx6
      show ev_w _ _ _ _ _ [.int (Int32.ofInt x6)] _ _ _ _
      refine ev_r_if (pc := 40) (q := .eq) (o := 28) (t := 68) (c := x6 = 0) (by decide +kernel) (ev_k_eq hx6 ev_rng0) (by decide +kernel) ?_ ?_
      · intro c7
        refine ev_r_iconst (pc := 68) (k := 0) (by decide +kernel) ?_
        exact ev_r_ireturn (pc := 69) (x := 0) (v := Int32.ofInt 0) (ty := .boolean) (by decide : ev_bl 0) (by decide +kernel) (by decide +kernel) (ev_ret_bl (by decide : ev_bl 0)) rfl
      · intro c7
        refine ev_r_aload_n (pc := 43) (k := 0) (v := .ref 3) trivial (by decide +kernel) (by exact (ev_lk_st1 (by rfl) (by decide) rfl)) ?_
        refine ev_r_iconst (pc := 44) (k := 3) (by decide +kernel) ?_
        refine ev_r_virt (pc := 45) (y := 108) (mi := 84) (na := 1) (k := 3) (as := [.int (Int32.ofInt 3)]) (rest := []) (encc := ev_oI) (Q := ev_rng) (fun x S1 h => jt_84 d (by omega) Q 3 (by decide) s5 x S1 h) (by exact ev_ob_3) (by decide +kernel) (by decide +kernel) (by decide +kernel) (by decide +kernel) rfl (by (try simp only [ev_sum, ev_nv_cat]); first | done | rfl) ?_
        intro x9 s8 hx9
        show ev_w _ _ _ _ _ [.int (Int32.ofInt x9)] _ _ _ _
        refine ev_r_bipush (pc := 48) (k := 62) (by decide +kernel) (by decide +kernel) ?_
        refine ev_r_icmp (pc := 50) (q := .ne) (o := 18) (t := 68) (c := x9 ≠ 62) (by decide +kernel) (ev_k_ne hx9 (by decide)) (by decide +kernel) ?_ ?_
        · intro c10
          refine ev_r_iconst (pc := 68) (k := 0) (by decide +kernel) ?_
          exact ev_r_ireturn (pc := 69) (x := 0) (v := Int32.ofInt 0) (ty := .boolean) (by decide : ev_bl 0) (by decide +kernel) (by decide +kernel) (ev_ret_bl (by decide : ev_bl 0)) rfl
        · intro c10
          refine ev_r_aload_n (pc := 53) (k := 0) (v := .ref 3) trivial (by decide +kernel) (by exact (ev_lk_st1 (by rfl) (by decide) rfl)) ?_
          refine ev_r_getR (pc := 54) (y := 55) (ci := 7) (f := 9) (fin := 0) (t := 5) (by decide +kernel) (by decide +kernel) (by exact ev_ob_3) rfl rfl ?_
          intro r11 hr11
          have hr11 : r11 = 0 ∨ ev_isOb (r11 - 1) 5 = true := hr11
          refine ev_r_chk ?_
          intro c12
          refine ev_r_dr (r := r11) (fun v => [v]) c12 ?_
          refine ev_r_getC (pc := 57) (y := 277) (ci := 5) (f := 10) (fin := 2) (k' := ((r11 - 1) + 11)) (by decide +kernel) (by decide +kernel) (by exact (hr11.resolve_left c12)) rfl rfl ?_
          refine ev_r_iload_n (pc := 60) (k := 1) (v := Int32.ofInt x2) (by decide +kernel) (by exact ev_lk_st1_self) ?_
          refine ev_r_bipush (pc := 61) (k := 97) (by decide +kernel) (by decide +kernel) ?_
          refine ev_r_isub (pc := 63) (by decide +kernel) ?_
          intro x13 hx13
          refine ev_r_iald (pc := 64) hx13 (by decide +kernel) (by exact (ev_fo_5_10 (hr11.resolve_left c12))) ?_
          intro x14 hx14
          refine ev_r_if (pc := 65) (q := .eq) (o := 5) (t := 70) (c := x14 = 0) (by decide +kernel) (ev_k_eq hx14 ev_rng0) (by decide +kernel) ?_ ?_
          · intro c15
            refine ev_r_aload_n (pc := 70) (k := 0) (v := .ref 3) trivial (by decide +kernel) (by exact (ev_lk_st1 (by rfl) (by decide) rfl)) ?_
            refine ev_r_dup (pc := 71) rfl (by decide +kernel) ?_
            refine ev_r_getI (pc := 72) (y := 63) (ci := 7) (f := 8) (fin := 0) (by decide +kernel) (by decide +kernel) (by exact ev_ob_3) rfl ?_
            intro x16 hx16
            refine ev_r_iconst (pc := 75) (k := 4) (by decide +kernel) ?_
            refine ev_r_iadd (pc := 76) (by decide +kernel) ?_
            intro x17 hx17
            refine ev_r_putI (pc := 77) (y := 63) (ci := 7) (f := 8) hx17 (by decide +kernel) (by decide +kernel) (by exact ev_ob_3) rfl rfl ?_
            intro s18
            refine ev_r_aload_n (pc := 80) (k := 0) (v := .ref 3) trivial (by decide +kernel) (by exact (ev_lk_st1 (by rfl) (by decide) rfl)) ?_
            refine ev_r_virt (pc := 81) (y := 253) (mi := 104) (na := 0) (k := 3) (as := []) (rest := []) (encc := ev_oI) (Q := ev_bl) (fun x S1 h => jt_104 d (by omega) Q   s18 x S1 h) (by exact ev_ob_3) (by decide +kernel) (by decide +kernel) (by decide +kernel) (by decide +kernel) rfl (by (try simp only [ev_sum, ev_nv_cat]); first | done | rfl) ?_
            intro x20 s19 hx20
            replace hx20 := ev_bl_rng hx20
            show ev_w _ _ _ _ _ [.int (Int32.ofInt x20)] _ _ _ _
            refine ev_r_istore_n (pc := 84) (k := 2) (by decide +kernel) (by decide +kernel) rfl ?_
            refine ev_r_aload_n (pc := 85) (k := 0) (v := .ref 3) trivial (by decide +kernel) (by exact (ev_l1 (ev_lk_st1 (by rfl) (by decide) rfl) (by decide) (by decide))) ?_
            refine ev_r_getR (pc := 86) (y := 55) (ci := 7) (f := 9) (fin := 0) (t := 5) (by decide +kernel) (by decide +kernel) (by exact ev_ob_3) rfl rfl ?_
            intro r21 hr21
            have hr21 : r21 = 0 ∨ ev_isOb (r21 - 1) 5 = true := hr21
            refine ev_r_chk ?_
            intro c22
            refine ev_r_dr (r := r21) (fun v => [v]) c22 ?_
            refine ev_r_getC (pc := 89) (y := 277) (ci := 5) (f := 10) (fin := 2) (k' := ((r21 - 1) + 11)) (by decide +kernel) (by decide +kernel) (by exact (hr21.resolve_left c22)) rfl rfl ?_
            refine ev_r_iload_n (pc := 92) (k := 1) (v := Int32.ofInt x2) (by decide +kernel) (by exact (ev_lk_st1 ev_lk_st1_self (by decide) rfl)) ?_
            refine ev_r_bipush (pc := 93) (k := 97) (by decide +kernel) (by decide +kernel) ?_
            refine ev_r_isub (pc := 95) (by decide +kernel) ?_
            intro x23 hx23
            refine ev_r_aload_n (pc := 96) (k := 0) (v := .ref 3) trivial (by decide +kernel) (by exact (ev_l1 (ev_lk_st1 (by rfl) (by decide) rfl) (by decide) (by decide))) ?_
            refine ev_r_getR (pc := 97) (y := 55) (ci := 7) (f := 9) (fin := 0) (t := 5) (by decide +kernel) (by decide +kernel) (by exact ev_ob_3) rfl rfl ?_
            intro r24 hr24
            have hr24 : r24 = 0 ∨ ev_isOb (r24 - 1) 5 = true := hr24
            refine ev_r_chk ?_
            intro c25
            refine ev_r_dr (r := r24) (fun v => [v, .int (Int32.ofInt x23), .ref (((r21 - 1) + 11))]) c25 ?_
            refine ev_r_getI (pc := 100) (y := 274) (ci := 5) (f := 12) (fin := 0) (by decide +kernel) (by decide +kernel) (by exact (hr24.resolve_left c25)) rfl ?_
            intro x26 hx26
            refine ev_r_iast (pc := 103) hx26 hx23 (by decide +kernel) (by exact (ev_fo_5_10 (hr21.resolve_left c22))) ?_
            intro s27
            refine ev_r_iload_n (pc := 104) (k := 2) (v := Int32.ofInt x20) (by decide +kernel) (by exact ev_lk_st1_self) ?_
            refine ev_r_chk ?_
            intro c28
            exact ev_r_ireturn (pc := 105) (x := x20) (v := Int32.ofInt x20) (ty := .boolean) c28 (by decide +kernel) (by decide +kernel) (ev_ret_bl c28) rfl
          · intro c15
            refine ev_r_iconst (pc := 68) (k := 0) (by decide +kernel) ?_
            exact ev_r_ireturn (pc := 69) (x := 0) (v := Int32.ofInt 0) (ty := .boolean) (by decide : ev_bl 0) (by decide +kernel) (by decide +kernel) (ev_ret_bl (by decide : ev_bl 0)) rfl
    · intro c4
      refine ev_r_aload_n (pc := 27) (k := 0) (v := .ref 3) trivial (by decide +kernel) (by exact (ev_lk_st1 (by rfl) (by decide) rfl)) ?_
      refine ev_r_iconst (pc := 28) (k := 3) (by decide +kernel) ?_
      refine ev_r_bipush (pc := 29) (k := 23) (by decide +kernel) (by decide +kernel) ?_
      refine ev_r_iconst (pc := 31) (k := 0) (by decide +kernel) ?_
      refine ev_r_virt (pc := 32) (y := 256) (mi := 103) (na := 3) (k := 3) (as := [.int (Int32.ofInt 3), .int (Int32.ofInt 23), .int (Int32.ofInt 0)]) (rest := []) (encc := ev_oI) (Q := ev_bl) (fun x S1 h => jt_103 d (by omega) Q 3 23 0 (by decide) (by decide) (by decide) s1 x S1 h) (by exact ev_ob_3) (by decide +kernel) (by decide +kernel) (by decide +kernel) (by decide +kernel) rfl (by (try simp only [ev_sum, ev_nv_cat]); first | done | rfl) ?_
      intro x30 s29 hx30
      replace hx30 := ev_bl_rng hx30
      show ev_w _ _ _ _ _ [.int (Int32.ofInt x30)] _ _ _ _
      refine ev_r_chk ?_
      intro c31
      exact ev_r_ireturn (pc := 35) (x := x30) (v := Int32.ofInt x30) (ty := .boolean) c31 (by decide +kernel) (by decide +kernel) (ev_ret_bl c31) rfl
  · intro c3
    refine ev_r_aload_n (pc := 12) (k := 0) (v := .ref 3) trivial (by decide +kernel) (by exact (ev_lk_st1 (by rfl) (by decide) rfl)) ?_
    refine ev_r_iconst (pc := 13) (k := 3) (by decide +kernel) ?_
    refine ev_r_bipush (pc := 14) (k := 22) (by decide +kernel) (by decide +kernel) ?_
    refine ev_r_iconst (pc := 16) (k := 0) (by decide +kernel) ?_
    refine ev_r_virt (pc := 17) (y := 256) (mi := 103) (na := 3) (k := 3) (as := [.int (Int32.ofInt 3), .int (Int32.ofInt 22), .int (Int32.ofInt 0)]) (rest := []) (encc := ev_oI) (Q := ev_bl) (fun x S1 h => jt_103 d (by omega) Q 3 22 0 (by decide) (by decide) (by decide) s1 x S1 h) (by exact ev_ob_3) (by decide +kernel) (by decide +kernel) (by decide +kernel) (by decide +kernel) rfl (by (try simp only [ev_sum, ev_nv_cat]); first | done | rfl) ?_
    intro x33 s32 hx33
    replace hx33 := ev_bl_rng hx33
    show ev_w _ _ _ _ _ [.int (Int32.ofInt x33)] _ _ _ _
    refine ev_r_chk ?_
    intro c34
    exact ev_r_ireturn (pc := 20) (x := x33) (v := Int32.ofInt x33) (ty := .boolean) c34 (by decide +kernel) (by decide +kernel) (ev_ret_bl c34) rfl
/-- MendBench$Reader.readCondition()Z -/
def jm_106 (Q : Nat)  (S : ev_St) : Option ((Int) × ev_St) := ev_bd (jm_84 Q 2 S) fun x2 s1 => if x2 < 49 then (some (0, s1)) else (if 57 < x2 then (some (0, s1)) else (ev_bd (jm_84 Q 3 s1) fun x6 s5 => if x6 ≠ 41 then (some (0, s5)) else (ev_ck (x2 - 48) fun x8 => ev_bd (jm_103 Q 4 8 x8 s5) fun x10 s9 => if x10 = 0 then (some (0, s9)) else (some (1, s9)))))
theorem jt_106 (d : Nat) (hd : 3 ≤ d) (Q : Nat)   (S : ev_St) (x : Int) (S' : ev_St) (hJ : jm_106 Q  S = some (x, S')) : ev_Ref d 106 [.ref 3] S (ev_eI x) S' (ev_bl x) := by
  obtain ⟨d, rfl⟩ : ∃ e, d = e + 1 := ⟨d - 1, by omega⟩
  refine ev_ref_of (P := ev_bl) (lv := [(0, .ref 3)]) (by decide +kernel) (by (try simp only [ev_sum, ev_nv_cat]); first | done | rfl) (by (try simp only [lv_args, ev_nv_cat]); first | done | rfl) ?_ x S' hJ
  unfold jm_106
  refine ev_r_aload_n (pc := 0) (k := 0) (v := .ref 3) trivial (by decide +kernel) (by rfl) ?_
  refine ev_r_iconst (pc := 1) (k := 2) (by decide +kernel) ?_
  refine ev_r_virt (pc := 2) (y := 108) (mi := 84) (na := 1) (k := 3) (as := [.int (Int32.ofInt 2)]) (rest := []) (encc := ev_oI) (Q := ev_rng) (fun x S1 h => jt_84 d (by omega) Q 2 (by decide) S x S1 h) (by exact ev_ob_3) (by decide +kernel) (by decide +kernel) (by decide +kernel) (by decide +kernel) rfl (by (try simp only [ev_sum, ev_nv_cat]); first | done | rfl) ?_
  intro x2 s1 hx2
  show ev_w _ _ _ _ _ [.int (Int32.ofInt x2)] _ _ _ _
  refine ev_r_istore_n (pc := 5) (k := 1) (by decide +kernel) (by decide +kernel) rfl ?_
  refine ev_r_iload_n (pc := 6) (k := 1) (v := Int32.ofInt x2) (by decide +kernel) (by exact ev_lk_st1_self) ?_
  refine ev_r_bipush (pc := 7) (k := 49) (by decide +kernel) (by decide +kernel) ?_
  refine ev_r_icmp (pc := 9) (q := .lt) (o := 37) (t := 46) (c := x2 < 49) (by decide +kernel) (ev_k_lt hx2 (by decide)) (by decide +kernel) ?_ ?_
  · intro c3
    refine ev_r_iconst (pc := 46) (k := 0) (by decide +kernel) ?_
    exact ev_r_ireturn (pc := 47) (x := 0) (v := Int32.ofInt 0) (ty := .boolean) (by decide : ev_bl 0) (by decide +kernel) (by decide +kernel) (ev_ret_bl (by decide : ev_bl 0)) rfl
  · intro c3
    refine ev_r_iload_n (pc := 12) (k := 1) (v := Int32.ofInt x2) (by decide +kernel) (by exact ev_lk_st1_self) ?_
    refine ev_r_bipush (pc := 13) (k := 57) (by decide +kernel) (by decide +kernel) ?_
    refine ev_r_icmp (pc := 15) (q := .gt) (o := 31) (t := 46) (c := 57 < x2) (by decide +kernel) (ev_k_gt hx2 (by decide)) (by decide +kernel) ?_ ?_
    · intro c4
      refine ev_r_iconst (pc := 46) (k := 0) (by decide +kernel) ?_
      exact ev_r_ireturn (pc := 47) (x := 0) (v := Int32.ofInt 0) (ty := .boolean) (by decide : ev_bl 0) (by decide +kernel) (by decide +kernel) (ev_ret_bl (by decide : ev_bl 0)) rfl
    · intro c4
      refine ev_r_aload_n (pc := 18) (k := 0) (v := .ref 3) trivial (by decide +kernel) (by exact (ev_lk_st1 (by rfl) (by decide) rfl)) ?_
      refine ev_r_iconst (pc := 19) (k := 3) (by decide +kernel) ?_
      refine ev_r_virt (pc := 20) (y := 108) (mi := 84) (na := 1) (k := 3) (as := [.int (Int32.ofInt 3)]) (rest := []) (encc := ev_oI) (Q := ev_rng) (fun x S1 h => jt_84 d (by omega) Q 3 (by decide) s1 x S1 h) (by exact ev_ob_3) (by decide +kernel) (by decide +kernel) (by decide +kernel) (by decide +kernel) rfl (by (try simp only [ev_sum, ev_nv_cat]); first | done | rfl) ?_
      intro x6 s5 hx6
      show ev_w _ _ _ _ _ [.int (Int32.ofInt x6)] _ _ _ _
      refine ev_r_bipush (pc := 23) (k := 41) (by decide +kernel) (by decide +kernel) ?_
      refine ev_r_icmp (pc := 25) (q := .ne) (o := 21) (t := 46) (c := x6 ≠ 41) (by decide +kernel) (ev_k_ne hx6 (by decide)) (by decide +kernel) ?_ ?_
      · intro c7
        refine ev_r_iconst (pc := 46) (k := 0) (by decide +kernel) ?_
        exact ev_r_ireturn (pc := 47) (x := 0) (v := Int32.ofInt 0) (ty := .boolean) (by decide : ev_bl 0) (by decide +kernel) (by decide +kernel) (ev_ret_bl (by decide : ev_bl 0)) rfl
      · intro c7
        refine ev_r_aload_n (pc := 28) (k := 0) (v := .ref 3) trivial (by decide +kernel) (by exact (ev_lk_st1 (by rfl) (by decide) rfl)) ?_
        refine ev_r_iconst (pc := 29) (k := 4) (by decide +kernel) ?_
        refine ev_r_bipush (pc := 30) (k := 8) (by decide +kernel) (by decide +kernel) ?_
        refine ev_r_iload_n (pc := 32) (k := 1) (v := Int32.ofInt x2) (by decide +kernel) (by exact ev_lk_st1_self) ?_
        refine ev_r_bipush (pc := 33) (k := 48) (by decide +kernel) (by decide +kernel) ?_
        refine ev_r_isub (pc := 35) (by decide +kernel) ?_
        intro x8 hx8
        refine ev_r_virt (pc := 36) (y := 256) (mi := 103) (na := 3) (k := 3) (as := [.int (Int32.ofInt 4), .int (Int32.ofInt 8), .int (Int32.ofInt x8)]) (rest := []) (encc := ev_oI) (Q := ev_bl) (fun x S1 h => jt_103 d (by omega) Q 4 8 x8 (by decide) (by decide) hx8 s5 x S1 h) (by exact ev_ob_3) (by decide +kernel) (by decide +kernel) (by decide +kernel) (by decide +kernel) rfl (by (try simp only [ev_sum, ev_nv_cat]); first | done | rfl) ?_
        intro x10 s9 hx10
        replace hx10 := ev_bl_rng hx10
        show ev_w _ _ _ _ _ [.int (Int32.ofInt x10)] _ _ _ _
        refine ev_r_if (pc := 39) (q := .eq) (o := 7) (t := 46) (c := x10 = 0) (by decide +kernel) (ev_k_eq hx10 ev_rng0) (by decide +kernel) ?_ ?_
        · intro c11
          refine ev_r_iconst (pc := 46) (k := 0) (by decide +kernel) ?_
          exact ev_r_ireturn (pc := 47) (x := 0) (v := Int32.ofInt 0) (ty := .boolean) (by decide : ev_bl 0) (by decide +kernel) (by decide +kernel) (ev_ret_bl (by decide : ev_bl 0)) rfl
        · intro c11
          refine ev_r_iconst (pc := 42) (k := 1) (by decide +kernel) ?_
          refine ev_r_goto (pc := 43) (o := 4) (t := 47) (by decide +kernel) (by decide +kernel) ?_
          exact ev_r_ireturn (pc := 47) (x := 1) (v := Int32.ofInt 1) (ty := .boolean) (by decide : ev_bl 1) (by decide +kernel) (by decide +kernel) (ev_ret_bl (by decide : ev_bl 1)) rfl
/-- MendBench$Reader.readInclusion()Z -/
def jm_111 (Q : Nat)  (S : ev_St) : Option ((Int) × ev_St) := ev_bd (jm_84 Q 2 S) fun x2 s1 => ev_bd (jm_209 Q x2 s1) fun x4 s3 => if x4 = 0 then (some (0, s3)) else (ev_bd (jm_84 Q 3 s3) fun x7 s6 => if x7 ≠ 41 then (some (0, s6)) else (ev_b (s6.1 3 12) fun x9 => if x2 ≠ x9 then (ev_ck (x2 - 97) fun x11 => ev_if ((0 : Int) ≤ x11 ∧ x11 < (ev_aln 5 : Int)) (ev_b (s6.1 5 (Int.toNat x11)) fun x12 => if x12 = 0 then (some (0, s6)) else (ev_b (s6.1 3 6) fun x14 => if x14 < 0 then (some (0, s6)) else (ev_b (s6.1 3 6) fun x16 => if 28 ≤ x16 then (some (0, s6)) else (ev_bd (jm_87 Q  s6) fun x19 s18 => if x19 ≠ 0 then (ev_b (s18.1 3 8) fun x21 => ev_ck (x21 + 4) fun x22 => ev_b (ev_pI s18 3 8 x22) fun s23 => ev_b (s23.1 3 6) fun x24 => ev_b (s23.2.2.1 3 7) fun r25 => ev_if (r25 ≠ 0) (ev_if ((0 : Int) ≤ x24 ∧ x24 < (28 : Int)) (ev_b (ev_pR s23 15 (Int.toNat x24) ((r25 - 1) + 1)) fun s26 => ev_b (s26.1 3 6) fun x28 => ev_b (s26.1 3 8) fun x29 => ev_if ((0 : Int) ≤ x28 ∧ x28 < (ev_aln 16 : Int)) (ev_b (ev_pI s26 16 (Int.toNat x28) x29) fun s30 => ev_b (s30.1 3 6) fun x31 => ev_ck (x31 + 1) fun x32 => ev_b (ev_pI s30 3 6 x32) fun s33 => ev_ck (x2 - 97) fun x34 => ev_if ((0 : Int) ≤ x34 ∧ x34 < (26 : Int)) (ev_b (169 + 2 * Int.toNat x34) fun _ => ev_b (ev_pR s33 3 7 (((169 + 2 * Int.toNat x34) + 1))) fun s37 => ev_b (ev_pI s37 3 8 0) fun s38 => ev_bd (jm_98 Q 17 0 1 s38) fun x40 s39 => ev_if (ev_bl x40) (some (x40, s39))))))) else (some (0, s18))))))) else (some (0, s6))))
theorem jt_111 (d : Nat) (hd : 3 ≤ d) (Q : Nat)   (S : ev_St) (x : Int) (S' : ev_St) (hJ : jm_111 Q  S = some (x, S')) : ev_Ref d 111 [.ref 3] S (ev_eI x) S' (ev_bl x) := by
  obtain ⟨d, rfl⟩ : ∃ e, d = e + 1 := ⟨d - 1, by omega⟩
  refine ev_ref_of (P := ev_bl) (lv := [(0, .ref 3)]) (by decide +kernel) (by (try simp only [ev_sum, ev_nv_cat]); first | done | rfl) (by (try simp only [lv_args, ev_nv_cat]); first | done | rfl) ?_ x S' hJ
  unfold jm_111
  refine ev_r_aload_n (pc := 0) (k := 0) (v := .ref 3) trivial (by decide +kernel) (by rfl) ?_
  refine ev_r_iconst (pc := 1) (k := 2) (by decide +kernel) ?_
  refine ev_r_virt (pc := 2) (y := 108) (mi := 84) (na := 1) (k := 3) (as := [.int (Int32.ofInt 2)]) (rest := []) (encc := ev_oI) (Q := ev_rng) (fun x S1 h => jt_84 d (by omega) Q 2 (by decide) S x S1 h) (by exact ev_ob_3) (by decide +kernel) (by decide +kernel) (by decide +kernel) (by decide +kernel) rfl (by (try simp only [ev_sum, ev_nv_cat]); first | done | rfl) ?_
  intro x2 s1 hx2
  show ev_w _ _ _ _ _ [.int (Int32.ofInt x2)] _ _ _ _
  refine ev_r_istore_n (pc := 5) (k := 1) (by decide +kernel) (by decide +kernel) rfl ?_
  refine ev_r_iload_n (pc := 6) (k := 1) (v := Int32.ofInt x2) (by decide +kernel) (by exact ev_lk_st1_self) ?_
  refine ev_r_stat (pc := 7) (y := 43) (kind := 5) (mi := 209) (na := 1) (as := [.int (Int32.ofInt x2)]) (rest := []) (encc := ev_oI) (Q := ev_bl) (fun x S1 h => jt_209 d (by omega) Q x2 hx2 s1 x S1 h) (Or.inr (Or.inl rfl)) (by decide +kernel) (by decide +kernel) (by decide +kernel) (by decide +kernel) rfl (by (try simp only [ev_sum, ev_nv_cat]); first | done | rfl) ?_
  intro x4 s3 hx4
  replace hx4 := ev_bl_rng hx4
  show ev_w _ _ _ _ _ [.int (Int32.ofInt x4)] _ _ _ _
  refine ev_r_if (pc := 10) (q := .eq) (o := 21) (t := 31) (c := x4 = 0) (by decide +kernel) (ev_k_eq hx4 ev_rng0) (by decide +kernel) ?_ ?_
  · intro c5
    refine ev_r_iconst (pc := 31) (k := 0) (by decide +kernel) ?_
    exact ev_r_ireturn (pc := 32) (x := 0) (v := Int32.ofInt 0) (ty := .boolean) (by decide : ev_bl 0) (by decide +kernel) (by decide +kernel) (ev_ret_bl (by decide : ev_bl 0)) rfl
  · intro c5
    refine ev_r_aload_n (pc := 13) (k := 0) (v := .ref 3) trivial (by decide +kernel) (by exact (ev_lk_st1 (by rfl) (by decide) rfl)) ?_
    refine ev_r_iconst (pc := 14) (k := 3) (by decide +kernel) ?_
    refine ev_r_virt (pc := 15) (y := 108) (mi := 84) (na := 1) (k := 3) (as := [.int (Int32.ofInt 3)]) (rest := []) (encc := ev_oI) (Q := ev_rng) (fun x S1 h => jt_84 d (by omega) Q 3 (by decide) s3 x S1 h) (by exact ev_ob_3) (by decide +kernel) (by decide +kernel) (by decide +kernel) (by decide +kernel) rfl (by (try simp only [ev_sum, ev_nv_cat]); first | done | rfl) ?_
    intro x7 s6 hx7
    show ev_w _ _ _ _ _ [.int (Int32.ofInt x7)] _ _ _ _
    refine ev_r_bipush (pc := 18) (k := 41) (by decide +kernel) (by decide +kernel) ?_
    refine ev_r_icmp (pc := 20) (q := .ne) (o := 11) (t := 31) (c := x7 ≠ 41) (by decide +kernel) (ev_k_ne hx7 (by decide)) (by decide +kernel) ?_ ?_
    · intro c8
      refine ev_r_iconst (pc := 31) (k := 0) (by decide +kernel) ?_
      exact ev_r_ireturn (pc := 32) (x := 0) (v := Int32.ofInt 0) (ty := .boolean) (by decide : ev_bl 0) (by decide +kernel) (by decide +kernel) (ev_ret_bl (by decide : ev_bl 0)) rfl
    · intro c8
      refine ev_r_iload_n (pc := 23) (k := 1) (v := Int32.ofInt x2) (by decide +kernel) (by exact ev_lk_st1_self) ?_
      refine ev_r_aload_n (pc := 24) (k := 0) (v := .ref 3) trivial (by decide +kernel) (by exact (ev_lk_st1 (by rfl) (by decide) rfl)) ?_
      refine ev_r_getI (pc := 25) (y := 59) (ci := 7) (f := 12) (fin := 0) (by decide +kernel) (by decide +kernel) (by exact ev_ob_3) rfl ?_
      intro x9 hx9
      refine ev_r_icmp (pc := 28) (q := .ne) (o := 5) (t := 33) (c := x2 ≠ x9) (by decide +kernel) (ev_k_ne hx2 hx9) (by decide +kernel) ?_ ?_
      · intro c10
        refine ev_r_aload_n (pc := 33) (k := 0) (v := .ref 3) trivial (by decide +kernel) (by exact (ev_lk_st1 (by rfl) (by decide) rfl)) ?_
        refine ev_r_getC (pc := 34) (y := 17) (ci := 7) (f := 1) (fin := 1) (k' := 5) (by decide +kernel) (by decide +kernel) (by exact ev_ob_3) rfl rfl ?_
        refine ev_r_iload_n (pc := 37) (k := 1) (v := Int32.ofInt x2) (by decide +kernel) (by exact ev_lk_st1_self) ?_
        refine ev_r_bipush (pc := 38) (k := 97) (by decide +kernel) (by decide +kernel) ?_
        refine ev_r_isub (pc := 40) (by decide +kernel) ?_
        intro x11 hx11
        refine ev_r_bald (pc := 41) (ty := .boolean) (Or.inr rfl) hx11 (by decide +kernel) (by exact ev_ab_5) ?_
        intro x12 hx12
        refine ev_r_if (pc := 42) (q := .eq) (o := 26) (t := 68) (c := x12 = 0) (by decide +kernel) (ev_k_eq hx12 ev_rng0) (by decide +kernel) ?_ ?_
        · intro c13
          refine ev_r_iconst (pc := 68) (k := 0) (by decide +kernel) ?_
          exact ev_r_ireturn (pc := 69) (x := 0) (v := Int32.ofInt 0) (ty := .boolean) (by decide : ev_bl 0) (by decide +kernel) (by decide +kernel) (ev_ret_bl (by decide : ev_bl 0)) rfl
        · intro c13
          refine ev_r_aload_n (pc := 45) (k := 0) (v := .ref 3) trivial (by decide +kernel) (by exact (ev_lk_st1 (by rfl) (by decide) rfl)) ?_
          refine ev_r_getI (pc := 46) (y := 66) (ci := 7) (f := 6) (fin := 0) (by decide +kernel) (by decide +kernel) (by exact ev_ob_3) rfl ?_
          intro x14 hx14
          refine ev_r_if (pc := 49) (q := .lt) (o := 19) (t := 68) (c := x14 < 0) (by decide +kernel) (ev_k_lt hx14 ev_rng0) (by decide +kernel) ?_ ?_
          · intro c15
            refine ev_r_iconst (pc := 68) (k := 0) (by decide +kernel) ?_
            exact ev_r_ireturn (pc := 69) (x := 0) (v := Int32.ofInt 0) (ty := .boolean) (by decide : ev_bl 0) (by decide +kernel) (by decide +kernel) (ev_ret_bl (by decide : ev_bl 0)) rfl
          · intro c15
            refine ev_r_aload_n (pc := 52) (k := 0) (v := .ref 3) trivial (by decide +kernel) (by exact (ev_lk_st1 (by rfl) (by decide) rfl)) ?_
            refine ev_r_getI (pc := 53) (y := 66) (ci := 7) (f := 6) (fin := 0) (by decide +kernel) (by decide +kernel) (by exact ev_ob_3) rfl ?_
            intro x16 hx16
            refine ev_r_bipush (pc := 56) (k := 28) (by decide +kernel) (by decide +kernel) ?_
            refine ev_r_icmp (pc := 58) (q := .ge) (o := 10) (t := 68) (c := 28 ≤ x16) (by decide +kernel) (ev_k_ge hx16 (by decide)) (by decide +kernel) ?_ ?_
            · intro c17
              refine ev_r_iconst (pc := 68) (k := 0) (by decide +kernel) ?_
              exact ev_r_ireturn (pc := 69) (x := 0) (v := Int32.ofInt 0) (ty := .boolean) (by decide : ev_bl 0) (by decide +kernel) (by decide +kernel) (ev_ret_bl (by decide : ev_bl 0)) rfl
            · intro c17
              refine ev_r_aload_n (pc := 61) (k := 0) (v := .ref 3) trivial (by decide +kernel) (by exact (ev_lk_st1 (by rfl) (by decide) rfl)) ?_
              refine ev_r_virt (pc := 62) (y := 162) (mi := 87) (na := 0) (k := 3) (as := []) (rest := []) (encc := ev_oI) (Q := ev_bl) (fun x S1 h => jt_87 d (by omega) Q   s6 x S1 h) (by exact ev_ob_3) (by decide +kernel) (by decide +kernel) (by decide +kernel) (by decide +kernel) rfl (by (try simp only [ev_sum, ev_nv_cat]); first | done | rfl) ?_
              intro x19 s18 hx19
              replace hx19 := ev_bl_rng hx19
              show ev_w _ _ _ _ _ [.int (Int32.ofInt x19)] _ _ _ _
              refine ev_r_if (pc := 65) (q := .ne) (o := 5) (t := 70) (c := x19 ≠ 0) (by decide +kernel) (ev_k_ne hx19 ev_rng0) (by decide +kernel) ?_ ?_
              · intro c20
                refine ev_r_aload_n (pc := 70) (k := 0) (v := .ref 3) trivial (by decide +kernel) (by exact (ev_lk_st1 (by rfl) (by decide) rfl)) ?_
                refine ev_r_dup (pc := 71) rfl (by decide +kernel) ?_
                refine ev_r_getI (pc := 72) (y := 63) (ci := 7) (f := 8) (fin := 0) (by decide +kernel) (by decide +kernel) (by exact ev_ob_3) rfl ?_
                intro x21 hx21
                refine ev_r_iconst (pc := 75) (k := 4) (by decide +kernel) ?_
                refine ev_r_iadd (pc := 76) (by decide +kernel) ?_
                intro x22 hx22
                refine ev_r_putI (pc := 77) (y := 63) (ci := 7) (f := 8) hx22 (by decide +kernel) (by decide +kernel) (by exact ev_ob_3) rfl rfl ?_
                intro s23
                refine ev_r_aload_n (pc := 80) (k := 0) (v := .ref 3) trivial (by decide +kernel) (by exact (ev_lk_st1 (by rfl) (by decide) rfl)) ?_
                refine ev_r_getC (pc := 81) (y := 34) (ci := 7) (f := 4) (fin := 1) (k' := 15) (by decide +kernel) (by decide +kernel) (by exact ev_ob_3) rfl rfl ?_
                refine ev_r_aload_n (pc := 84) (k := 0) (v := .ref 3) trivial (by decide +kernel) (by exact (ev_lk_st1 (by rfl) (by decide) rfl)) ?_
                refine ev_r_getI (pc := 85) (y := 66) (ci := 7) (f := 6) (fin := 0) (by decide +kernel) (by decide +kernel) (by exact ev_ob_3) rfl ?_
                intro x24 hx24
                refine ev_r_aload_n (pc := 88) (k := 0) (v := .ref 3) trivial (by decide +kernel) (by exact (ev_lk_st1 (by rfl) (by decide) rfl)) ?_
                refine ev_r_getR (pc := 89) (y := 51) (ci := 7) (f := 7) (fin := 0) (t := 10) (by decide +kernel) (by decide +kernel) (by exact ev_ob_3) rfl rfl ?_
                intro r25 hr25
                have hr25 : r25 = 0 ∨ ev_isOb (r25 - 1) 10 = true := hr25
                refine ev_r_chk ?_
                intro c27
                refine ev_r_dr (r := r25) (fun v => [v, .int (Int32.ofInt x24), .ref 15]) c27 ?_
                refine ev_r_ast15 (pc := 92) (by exact (hr25.resolve_left c27)) hx24 (by decide +kernel) ?_
                intro s26
                refine ev_r_aload_n (pc := 93) (k := 0) (v := .ref 3) trivial (by decide +kernel) (by exact (ev_lk_st1 (by rfl) (by decide) rfl)) ?_
                refine ev_r_getC (pc := 94) (y := 37) (ci := 7) (f := 5) (fin := 1) (k' := 16) (by decide +kernel) (by decide +kernel) (by exact ev_ob_3) rfl rfl ?_
                refine ev_r_aload_n (pc := 97) (k := 0) (v := .ref 3) trivial (by decide +kernel) (by exact (ev_lk_st1 (by rfl) (by decide) rfl)) ?_
                refine ev_r_getI (pc := 98) (y := 66) (ci := 7) (f := 6) (fin := 0) (by decide +kernel) (by decide +kernel) (by exact ev_ob_3) rfl ?_
                intro x28 hx28
                refine ev_r_aload_n (pc := 101) (k := 0) (v := .ref 3) trivial (by decide +kernel) (by exact (ev_lk_st1 (by rfl) (by decide) rfl)) ?_
                refine ev_r_getI (pc := 102) (y := 63) (ci := 7) (f := 8) (fin := 0) (by decide +kernel) (by decide +kernel) (by exact ev_ob_3) rfl ?_
                intro x29 hx29
                refine ev_r_iast (pc := 105) hx29 hx28 (by decide +kernel) (by exact ev_ab_16) ?_
                intro s30
                refine ev_r_aload_n (pc := 106) (k := 0) (v := .ref 3) trivial (by decide +kernel) (by exact (ev_lk_st1 (by rfl) (by decide) rfl)) ?_
                refine ev_r_dup (pc := 107) rfl (by decide +kernel) ?_
                refine ev_r_getI (pc := 108) (y := 66) (ci := 7) (f := 6) (fin := 0) (by decide +kernel) (by decide +kernel) (by exact ev_ob_3) rfl ?_
                intro x31 hx31
                refine ev_r_iconst (pc := 111) (k := 1) (by decide +kernel) ?_
                refine ev_r_iadd (pc := 112) (by decide +kernel) ?_
                intro x32 hx32
                refine ev_r_putI (pc := 113) (y := 66) (ci := 7) (f := 6) hx32 (by decide +kernel) (by decide +kernel) (by exact ev_ob_3) rfl rfl ?_
                intro s33
                refine ev_r_aload_n (pc := 116) (k := 0) (v := .ref 3) trivial (by decide +kernel) (by exact (ev_lk_st1 (by rfl) (by decide) rfl)) ?_
                refine ev_r_aload_n (pc := 117) (k := 0) (v := .ref 3) trivial (by decide +kernel) (by exact (ev_lk_st1 (by rfl) (by decide) rfl)) ?_
                refine ev_r_getC (pc := 118) (y := 11) (ci := 7) (f := 0) (fin := 1) (k' := 4) (by decide +kernel) (by decide +kernel) (by exact ev_ob_3) rfl rfl ?_
                refine ev_r_iload_n (pc := 121) (k := 1) (v := Int32.ofInt x2) (by decide +kernel) (by exact ev_lk_st1_self) ?_
                refine ev_r_bipush (pc := 122) (k := 97) (by decide +kernel) (by decide +kernel) ?_
                refine ev_r_isub (pc := 124) (by decide +kernel) ?_
                intro x34 hx34
                refine ev_r_aald (pc := 125) (N := 26) (b := 169) (c := 2) (C := "MendBench$Text") hx34 (by decide +kernel) (by decide +kernel) ?_
                intro c35
                refine ev_r_putR (pc := 126) (y := 51) (ci := 7) (f := 7) (r := ((169 + 2 * Int.toNat x34) + 1)) (t := 10) (by exact (Or.inr (ev_el_4 c35))) (by decide +kernel) (by decide +kernel) (by exact ev_ob_3) rfl rfl rfl ?_
                intro s37
                refine ev_r_aload_n (pc := 129) (k := 0) (v := .ref 3) trivial (by decide +kernel) (by exact (ev_lk_st1 (by rfl) (by decide) rfl)) ?_
                refine ev_r_iconst (pc := 130) (k := 0) (by decide +kernel) ?_
                refine ev_r_putI (pc := 131) (y := 63) (ci := 7) (f := 8) (by decide) (by decide +kernel) (by decide +kernel) (by exact ev_ob_3) rfl rfl ?_
                intro s38
                refine ev_r_aload_n (pc := 134) (k := 0) (v := .ref 3) trivial (by decide +kernel) (by exact (ev_lk_st1 (by rfl) (by decide) rfl)) ?_
                refine ev_r_bipush (pc := 135) (k := 17) (by decide +kernel) (by decide +kernel) ?_
                refine ev_r_iconst (pc := 137) (k := 0) (by decide +kernel) ?_
                refine ev_r_iconst (pc := 138) (k := 1) (by decide +kernel) ?_
                refine ev_r_virt (pc := 139) (y := 83) (mi := 98) (na := 3) (k := 3) (as := [.int (Int32.ofInt 17), .int (Int32.ofInt 0), .int (Int32.ofInt 1)]) (rest := []) (encc := ev_oI) (Q := ev_bl) (fun x S1 h => jt_98 d (by omega) Q 17 0 1 (by decide) (by decide) (by decide) s38 x S1 h) (by exact ev_ob_3) (by decide +kernel) (by decide +kernel) (by decide +kernel) (by decide +kernel) rfl (by (try simp only [ev_sum, ev_nv_cat]); first | done | rfl) ?_
                intro x40 s39 hx40
                replace hx40 := ev_bl_rng hx40
                show ev_w _ _ _ _ _ [.int (Int32.ofInt x40)] _ _ _ _
                refine ev_r_chk ?_
                intro c41
                exact ev_r_ireturn (pc := 142) (x := x40) (v := Int32.ofInt x40) (ty := .boolean) c41 (by decide +kernel) (by decide +kernel) (ev_ret_bl c41) rfl
              · intro c20
                refine ev_r_iconst (pc := 68) (k := 0) (by decide +kernel) ?_
                exact ev_r_ireturn (pc := 69) (x := 0) (v := Int32.ofInt 0) (ty := .boolean) (by decide : ev_bl 0) (by decide +kernel) (by decide +kernel) (ev_ret_bl (by decide : ev_bl 0)) rfl
      · intro c10
        refine ev_r_iconst (pc := 31) (k := 0) (by decide +kernel) ?_
        exact ev_r_ireturn (pc := 32) (x := 0) (v := Int32.ofInt 0) (ty := .boolean) (by decide : ev_bl 0) (by decide +kernel) (by decide +kernel) (ev_ret_bl (by decide : ev_bl 0)) rfl
/-- MendBench$Reader.switchOf(I)I -/
def jm_110 (Q : Nat) (a0 : Int) (S : ev_St) : Option ((Int) × ev_St) := if a0 ≠ 105 then (if a0 ≠ 115 then (if a0 ≠ 109 then (some (0, S)) else (some (4, S))) else (some (2, S))) else (some (1, S))
theorem jt_110 (d : Nat) (hd : 1 ≤ d) (Q : Nat) (a0 : Int) (ha0 : ev_rng a0) (S : ev_St) (x : Int) (S' : ev_St) (hJ : jm_110 Q a0 S = some (x, S')) : ev_Ref d 110 [.int (Int32.ofInt a0)] S (ev_eI x) S' (ev_rng x) := by
  obtain ⟨d, rfl⟩ : ∃ e, d = e + 1 := ⟨d - 1, by omega⟩
  refine ev_ref_of (P := ev_rng) (lv := [(0, .int (Int32.ofInt a0))]) (by decide +kernel) (by (try simp only [ev_sum, ev_nv_cat]); first | done | rfl) (by (try simp only [lv_args, ev_nv_cat]); first | done | rfl) ?_ x S' hJ
  unfold jm_110
  refine ev_r_iload_n (pc := 0) (k := 0) (v := Int32.ofInt a0) (by decide +kernel) (by rfl) ?_
  refine ev_r_bipush (pc := 1) (k := 105) (by decide +kernel) (by decide +kernel) ?_
  refine ev_r_icmp (pc := 3) (q := .ne) (o := 7) (t := 10) (c := a0 ≠ 105) (by decide +kernel) (ev_k_ne ha0 (by decide)) (by decide +kernel) ?_ ?_
  · intro c1
    refine ev_r_iload_n (pc := 10) (k := 0) (v := Int32.ofInt a0) (by decide +kernel) (by rfl) ?_
    refine ev_r_bipush (pc := 11) (k := 115) (by decide +kernel) (by decide +kernel) ?_
    refine ev_r_icmp (pc := 13) (q := .ne) (o := 7) (t := 20) (c := a0 ≠ 115) (by decide +kernel) (ev_k_ne ha0 (by decide)) (by decide +kernel) ?_ ?_
    · intro c2
      refine ev_r_iload_n (pc := 20) (k := 0) (v := Int32.ofInt a0) (by decide +kernel) (by rfl) ?_
      refine ev_r_bipush (pc := 21) (k := 109) (by decide +kernel) (by decide +kernel) ?_
      refine ev_r_icmp (pc := 23) (q := .ne) (o := 7) (t := 30) (c := a0 ≠ 109) (by decide +kernel) (ev_k_ne ha0 (by decide)) (by decide +kernel) ?_ ?_
      · intro c3
        refine ev_r_iconst (pc := 30) (k := 0) (by decide +kernel) ?_
        exact ev_r_ireturn (pc := 31) (x := 0) (v := Int32.ofInt 0) (ty := .int) (by decide) (by decide +kernel) (by decide +kernel) rfl rfl
      · intro c3
        refine ev_r_iconst (pc := 26) (k := 4) (by decide +kernel) ?_
        refine ev_r_goto (pc := 27) (o := 4) (t := 31) (by decide +kernel) (by decide +kernel) ?_
        exact ev_r_ireturn (pc := 31) (x := 4) (v := Int32.ofInt 4) (ty := .int) (by decide) (by decide +kernel) (by decide +kernel) rfl rfl
    · intro c2
      refine ev_r_iconst (pc := 16) (k := 2) (by decide +kernel) ?_
      refine ev_r_goto (pc := 17) (o := 14) (t := 31) (by decide +kernel) (by decide +kernel) ?_
      exact ev_r_ireturn (pc := 31) (x := 2) (v := Int32.ofInt 2) (ty := .int) (by decide) (by decide +kernel) (by decide +kernel) rfl rfl
  · intro c1
    refine ev_r_iconst (pc := 6) (k := 1) (by decide +kernel) ?_
    refine ev_r_goto (pc := 7) (o := 24) (t := 31) (by decide +kernel) (by decide +kernel) ?_
    exact ev_r_ireturn (pc := 31) (x := 1) (v := Int32.ofInt 1) (ty := .int) (by decide) (by decide +kernel) (by decide +kernel) rfl rfl
def jb_109_12 (Q : Nat)   (K12 : Int → Int → Int → Int → Int → ev_St → Option ((Int) × ev_St)) (x1 : Int) (x2 : Int) (x3 : Int) (x4 : Int) (x5 : Int) (s13 : ev_St) : Option ((Int) × ev_St) := ev_jn (fun  (s20 : ev_St) => ev_bd (jm_84 Q x4 s20) fun x22 s21 => ev_jn (fun (x23 : Int) (x24 : Int) (s31 : ev_St) => if x24 = 0 then (some (0, s31)) else (ev_jn (fun  (s39 : ev_St) => ev_b (s39.1 3 8) fun x40 => ev_ck (x4 + 1) fun x41 => ev_ck (x40 + x41) fun x42 => ev_b (ev_pI s39 3 8 x42) fun s43 => ev_jn (fun  (s48 : ev_St) => ev_b (s48.1 3 11) fun x49 => ev_b (ev_ior x49 x1) fun x50 => ev_b (ev_ixor x2 ((-1))) fun x51 => ev_b (ev_iand x50 x51) fun x52 => ev_b (ev_pI s48 3 11 x52) fun s53 => ev_b (ev_pI s53 3 13 0) fun s54 => some (1, s54)) fun K160 => if x23 ≠ 58 then (K160  s43) else (ev_bd (jm_103 Q 0 17 0 s43) fun x57 s56 => if x57 ≠ 0 then (K160  s56) else (some (0, s56)))) fun K127 => if x23 = 41 then (K127  s31) else (if x23 = 58 then (K127  s31) else (some (0, s31))))) fun K108 => if x3 = 0 then (K108 x22 x1 s21) else (K108 x22 x2 s21)) fun K91 => if 160 ≤ x5 then (K91  s13) else (ev_bd (jm_84 Q x4 s13) fun x64 s63 => ev_bd (jm_110 Q x64 s63) fun x66 s65 => ev_jn (fun (x67 : Int) (s76 : ev_St) => ev_jn (fun (x77 : Int) (x78 : Int) (x79 : Int) (s87 : ev_St) => ev_ck (x4 + 1) fun x88 => ev_ck (x5 + 1) fun x89 => K12 x77 x78 x79 x88 x89 s87) fun K82 => if x3 = 0 then (ev_b (ev_ior x1 x67) fun x91 => ev_jn (fun (x92 : Int) (x93 : Int) (s100 : ev_St) => K82 x92 x2 x93 s100) fun K81 => if x67 ≠ 0 then (K81 x91 0 s76) else (K81 x91 1 s76)) else (ev_b (ev_ior x2 x67) fun x102 => K82 x1 x102 x3 s76)) fun K54 => if x66 ≠ 0 then (K54 x66 s65) else (ev_bd (jm_84 Q x4 s65) fun x105 s104 => if x105 ≠ 45 then (K91  s104) else (if x3 = 0 then (K54 x66 s104) else (K91  s104))))
def jl_109_12 (Q : Nat)   : Nat → Int → Int → Int → Int → Int → ev_St → Option ((Int) × ev_St)
  | 0 => fun _ _ _ _ _ _ => none
  | q + 1 => jb_109_12 Q   (jl_109_12 Q   q)
theorem jbt_109_12 (d : Nat) (hd : 3 ≤ d + 1) (Q : Nat)     (K12 : Int → Int → Int → Int → Int → ev_St → Option ((Int) × ev_St)) (hK12 : ∀ (x1 : Int) (hx1 : ev_rng x1), ∀ (x2 : Int) (hx2 : ev_rng x2), ∀ (x3 : Int) (hx3 : ev_rng x3), ∀ (x4 : Int) (hx4 : ev_rng x4), ∀ (x5 : Int) (hx5 : ev_rng x5), ∀ (s13 : ev_St) (w6 : List (Nat × Value)), ev_lk w6 0 = some (.ref 3) → ev_lk w6 1 = some (.int (Int32.ofInt x1)) → ev_lk w6 2 = some (.int (Int32.ofInt x2)) → ev_lk w6 3 = some (.int (Int32.ofInt x3)) → ev_lk w6 4 = some (.int (Int32.ofInt x4)) → ev_lk w6 5 = some (.int (Int32.ofInt x5)) → ev_w none (ev_Mof 109) d 12 w6 [] s13 (K12 x1 x2 x3 x4 x5 s13) ev_eI ev_bl) : ∀ (x1 : Int) (hx1 : ev_rng x1), ∀ (x2 : Int) (hx2 : ev_rng x2), ∀ (x3 : Int) (hx3 : ev_rng x3), ∀ (x4 : Int) (hx4 : ev_rng x4), ∀ (x5 : Int) (hx5 : ev_rng x5), ∀ (s13 : ev_St) (w6 : List (Nat × Value)), ev_lk w6 0 = some (.ref 3) → ev_lk w6 1 = some (.int (Int32.ofInt x1)) → ev_lk w6 2 = some (.int (Int32.ofInt x2)) → ev_lk w6 3 = some (.int (Int32.ofInt x3)) → ev_lk w6 4 = some (.int (Int32.ofInt x4)) → ev_lk w6 5 = some (.int (Int32.ofInt x5)) → ev_w none (ev_Mof 109) d 12 w6 [] s13 (jb_109_12 Q   K12 x1 x2 x3 x4 x5 s13) ev_eI ev_bl := by
  intro x1 hx1 x2 hx2 x3 hx3 x4 hx4 x5 hx5 s13 w6 e7 e8 e9 e10 e11 e12
  unfold jb_109_12
  refine ev_r_iload (pc := 12) (k := 5) (v := Int32.ofInt x5) (by decide +kernel) (by exact e12) ?_
  refine ev_r_sipush (pc := 14) (k := 160) (by decide +kernel) (by decide +kernel) ?_
  refine ev_r_jn (Q := fun K => ∀ (s20 : ev_St) (w14 : List (Nat × Value)), ev_lk w14 0 = some (.ref 3) → ev_lk w14 1 = some (.int (Int32.ofInt x1)) → ev_lk w14 2 = some (.int (Int32.ofInt x2)) → ev_lk w14 3 = some (.int (Int32.ofInt x3)) → ev_lk w14 4 = some (.int (Int32.ofInt x4)) → ev_w none (ev_Mof 109) d 91 w14 [] s20 (K  s20) ev_eI ev_bl) ?_ ?_
  · intro  s20 w14 e15 e16 e17 e18 e19
    refine ev_r_aload_n (pc := 91) (k := 0) (v := .ref 3) trivial (by decide +kernel) (by exact e15) ?_
    refine ev_r_iload (pc := 92) (k := 4) (v := Int32.ofInt x4) (by decide +kernel) (by exact e19) ?_
    refine ev_r_virt (pc := 94) (y := 108) (mi := 84) (na := 1) (k := 3) (as := [.int (Int32.ofInt x4)]) (rest := []) (encc := ev_oI) (Q := ev_rng) (fun x S1 h => jt_84 d (by omega) Q x4 hx4 s20 x S1 h) (by exact ev_ob_3) (by decide +kernel) (by decide +kernel) (by decide +kernel) (by decide +kernel) rfl (by (try simp only [ev_sum, ev_nv_cat]); first | done | rfl) ?_
    intro x22 s21 hx22
    show ev_w _ _ _ _ _ [.int (Int32.ofInt x22)] _ _ _ _
    refine ev_r_istore (pc := 97) (k := 5) (by decide +kernel) (by decide +kernel) rfl ?_
    refine ev_r_iload_n (pc := 99) (k := 3) (v := Int32.ofInt x3) (by decide +kernel) (by exact (ev_l1 e18 (by decide) (by decide))) ?_
    refine ev_r_jn (Q := fun K => ∀ (x23 : Int) (hx23 : ev_rng x23), ∀ (x24 : Int) (hx24 : ev_rng x24), ∀ (s31 : ev_St) (w25 : List (Nat × Value)), ev_lk w25 0 = some (.ref 3) → ev_lk w25 1 = some (.int (Int32.ofInt x1)) → ev_lk w25 2 = some (.int (Int32.ofInt x2)) → ev_lk w25 4 = some (.int (Int32.ofInt x4)) → ev_lk w25 5 = some (.int (Int32.ofInt x23)) → ev_w none (ev_Mof 109) d 108 w25 [.int (Int32.ofInt x24)] s31 (K x23 x24 s31) ev_eI ev_bl) ?_ ?_
    · intro x23 hx23 x24 hx24 s31 w25 e26 e27 e28 e29 e30
      refine ev_r_if (pc := 108) (q := .eq) (o := 17) (t := 125) (c := x24 = 0) (by decide +kernel) (ev_k_eq hx24 ev_rng0) (by decide +kernel) ?_ ?_
      · intro c32
        refine ev_r_iconst (pc := 125) (k := 0) (by decide +kernel) ?_
        exact ev_r_ireturn (pc := 126) (x := 0) (v := Int32.ofInt 0) (ty := .boolean) (by decide : ev_bl 0) (by decide +kernel) (by decide +kernel) (ev_ret_bl (by decide : ev_bl 0)) rfl
      · intro c32
        refine ev_r_iload (pc := 111) (k := 5) (v := Int32.ofInt x23) (by decide +kernel) (by exact e30) ?_
        refine ev_r_bipush (pc := 113) (k := 41) (by decide +kernel) (by decide +kernel) ?_
        refine ev_r_jn (Q := fun K => ∀ (s39 : ev_St) (w33 : List (Nat × Value)), ev_lk w33 0 = some (.ref 3) → ev_lk w33 1 = some (.int (Int32.ofInt x1)) → ev_lk w33 2 = some (.int (Int32.ofInt x2)) → ev_lk w33 4 = some (.int (Int32.ofInt x4)) → ev_lk w33 5 = some (.int (Int32.ofInt x23)) → ev_w none (ev_Mof 109) d 127 w33 [] s39 (K  s39) ev_eI ev_bl) ?_ ?_
        · intro  s39 w33 e34 e35 e36 e37 e38
          refine ev_r_aload_n (pc := 127) (k := 0) (v := .ref 3) trivial (by decide +kernel) (by exact e34) ?_
          refine ev_r_dup (pc := 128) rfl (by decide +kernel) ?_
          refine ev_r_getI (pc := 129) (y := 63) (ci := 7) (f := 8) (fin := 0) (by decide +kernel) (by decide +kernel) (by exact ev_ob_3) rfl ?_
          intro x40 hx40
          refine ev_r_iload (pc := 132) (k := 4) (v := Int32.ofInt x4) (by decide +kernel) (by exact e37) ?_
          refine ev_r_iconst (pc := 134) (k := 1) (by decide +kernel) ?_
          refine ev_r_iadd (pc := 135) (by decide +kernel) ?_
          intro x41 hx41
          refine ev_r_iadd (pc := 136) (by decide +kernel) ?_
          intro x42 hx42
          refine ev_r_putI (pc := 137) (y := 63) (ci := 7) (f := 8) hx42 (by decide +kernel) (by decide +kernel) (by exact ev_ob_3) rfl rfl ?_
          intro s43
          refine ev_r_iload (pc := 140) (k := 5) (v := Int32.ofInt x23) (by decide +kernel) (by exact e38) ?_
          refine ev_r_bipush (pc := 142) (k := 58) (by decide +kernel) (by decide +kernel) ?_
          refine ev_r_jn (Q := fun K => ∀ (s48 : ev_St) (w44 : List (Nat × Value)), ev_lk w44 0 = some (.ref 3) → ev_lk w44 1 = some (.int (Int32.ofInt x1)) → ev_lk w44 2 = some (.int (Int32.ofInt x2)) → ev_w none (ev_Mof 109) d 160 w44 [] s48 (K  s48) ev_eI ev_bl) ?_ ?_
          · intro  s48 w44 e45 e46 e47
            refine ev_r_aload_n (pc := 160) (k := 0) (v := .ref 3) trivial (by decide +kernel) (by exact e45) ?_
            refine ev_r_aload_n (pc := 161) (k := 0) (v := .ref 3) trivial (by decide +kernel) (by exact e45) ?_
            refine ev_r_getI (pc := 162) (y := 72) (ci := 7) (f := 11) (fin := 0) (by decide +kernel) (by decide +kernel) (by exact ev_ob_3) rfl ?_
            intro x49 hx49
            refine ev_r_iload_n (pc := 165) (k := 1) (v := Int32.ofInt x1) (by decide +kernel) (by exact e46) ?_
            refine ev_r_ior (pc := 166) (by decide +kernel) ?_
            intro x50 hx50
            refine ev_r_iload_n (pc := 167) (k := 2) (v := Int32.ofInt x2) (by decide +kernel) (by exact e47) ?_
            refine ev_r_iconst (pc := 168) (k := -1) (by decide +kernel) ?_
            refine ev_r_ixor (pc := 169) (by decide +kernel) ?_
            intro x51 hx51
            refine ev_r_iand (pc := 170) (by decide +kernel) ?_
            intro x52 hx52
            refine ev_r_putI (pc := 171) (y := 72) (ci := 7) (f := 11) hx52 (by decide +kernel) (by decide +kernel) (by exact ev_ob_3) rfl rfl ?_
            intro s53
            refine ev_r_aload_n (pc := 174) (k := 0) (v := .ref 3) trivial (by decide +kernel) (by exact e45) ?_
            refine ev_r_iconst (pc := 175) (k := 0) (by decide +kernel) ?_
            refine ev_r_putI (pc := 176) (y := 165) (ci := 7) (f := 13) (by decide) (by decide +kernel) (by decide +kernel) (by exact ev_ob_3) rfl (ev_fit_bl (by decide : ev_bl 0)) ?_
            intro s54
            refine ev_r_iconst (pc := 179) (k := 1) (by decide +kernel) ?_
            exact ev_r_ireturn (pc := 180) (x := 1) (v := Int32.ofInt 1) (ty := .boolean) (by decide : ev_bl 1) (by decide +kernel) (by decide +kernel) (ev_ret_bl (by decide : ev_bl 1)) rfl
          · intro K160 hK160
            refine ev_r_icmp (pc := 144) (q := .ne) (o := 16) (t := 160) (c := x23 ≠ 58) (by decide +kernel) (ev_k_ne hx23 (by decide)) (by decide +kernel) ?_ ?_
            · intro c55
              exact hK160  s43 _ (by exact e34) (by exact e35) (by exact e36)
            · intro c55
              refine ev_r_aload_n (pc := 147) (k := 0) (v := .ref 3) trivial (by decide +kernel) (by exact e34) ?_
              refine ev_r_iconst (pc := 148) (k := 0) (by decide +kernel) ?_
              refine ev_r_bipush (pc := 149) (k := 17) (by decide +kernel) (by decide +kernel) ?_
              refine ev_r_iconst (pc := 151) (k := 0) (by decide +kernel) ?_
              refine ev_r_virt (pc := 152) (y := 256) (mi := 103) (na := 3) (k := 3) (as := [.int (Int32.ofInt 0), .int (Int32.ofInt 17), .int (Int32.ofInt 0)]) (rest := []) (encc := ev_oI) (Q := ev_bl) (fun x S1 h => jt_103 d (by omega) Q 0 17 0 (by decide) (by decide) (by decide) s43 x S1 h) (by exact ev_ob_3) (by decide +kernel) (by decide +kernel) (by decide +kernel) (by decide +kernel) rfl (by (try simp only [ev_sum, ev_nv_cat]); first | done | rfl) ?_
              intro x57 s56 hx57
              replace hx57 := ev_bl_rng hx57
              show ev_w _ _ _ _ _ [.int (Int32.ofInt x57)] _ _ _ _
              refine ev_r_if (pc := 155) (q := .ne) (o := 5) (t := 160) (c := x57 ≠ 0) (by decide +kernel) (ev_k_ne hx57 ev_rng0) (by decide +kernel) ?_ ?_
              · intro c58
                exact hK160  s56 _ (by exact e34) (by exact e35) (by exact e36)
              · intro c58
                refine ev_r_iconst (pc := 158) (k := 0) (by decide +kernel) ?_
                exact ev_r_ireturn (pc := 159) (x := 0) (v := Int32.ofInt 0) (ty := .boolean) (by decide : ev_bl 0) (by decide +kernel) (by decide +kernel) (ev_ret_bl (by decide : ev_bl 0)) rfl
        · intro K127 hK127
          refine ev_r_icmp (pc := 115) (q := .eq) (o := 12) (t := 127) (c := x23 = 41) (by decide +kernel) (ev_k_eq hx23 (by decide)) (by decide +kernel) ?_ ?_
          · intro c59
            exact hK127  s31 _ (by exact e26) (by exact e27) (by exact e28) (by exact e29) (by exact e30)
          · intro c59
            refine ev_r_iload (pc := 118) (k := 5) (v := Int32.ofInt x23) (by decide +kernel) (by exact e30) ?_
            refine ev_r_bipush (pc := 120) (k := 58) (by decide +kernel) (by decide +kernel) ?_
            refine ev_r_icmp (pc := 122) (q := .eq) (o := 5) (t := 127) (c := x23 = 58) (by decide +kernel) (ev_k_eq hx23 (by decide)) (by decide +kernel) ?_ ?_
            · intro c60
              exact hK127  s31 _ (by exact e26) (by exact e27) (by exact e28) (by exact e29) (by exact e30)
            · intro c60
              refine ev_r_iconst (pc := 125) (k := 0) (by decide +kernel) ?_
              exact ev_r_ireturn (pc := 126) (x := 0) (v := Int32.ofInt 0) (ty := .boolean) (by decide : ev_bl 0) (by decide +kernel) (by decide +kernel) (ev_ret_bl (by decide : ev_bl 0)) rfl
    · intro K108 hK108
      refine ev_r_if (pc := 100) (q := .eq) (o := 7) (t := 107) (c := x3 = 0) (by decide +kernel) (ev_k_eq hx3 ev_rng0) (by decide +kernel) ?_ ?_
      · intro c61
        refine ev_r_iload_n (pc := 107) (k := 1) (v := Int32.ofInt x1) (by decide +kernel) (by exact (ev_l1 e16 (by decide) (by decide))) ?_
        exact hK108 x22 hx22 x1 hx1 s21 _ (by exact (ev_l1 e15 (by decide) (by decide))) (by exact (ev_l1 e16 (by decide) (by decide))) (by exact (ev_l1 e17 (by decide) (by decide))) (by exact (ev_lk_st1 e19 (by decide) rfl)) (by exact ev_lk_st1_self)
      · intro c61
        refine ev_r_iload_n (pc := 103) (k := 2) (v := Int32.ofInt x2) (by decide +kernel) (by exact (ev_l1 e17 (by decide) (by decide))) ?_
        refine ev_r_goto (pc := 104) (o := 4) (t := 108) (by decide +kernel) (by decide +kernel) ?_
        exact hK108 x22 hx22 x2 hx2 s21 _ (by exact (ev_l1 e15 (by decide) (by decide))) (by exact (ev_l1 e16 (by decide) (by decide))) (by exact (ev_l1 e17 (by decide) (by decide))) (by exact (ev_lk_st1 e19 (by decide) rfl)) (by exact ev_lk_st1_self)
  · intro K91 hK91
    refine ev_r_icmp (pc := 17) (q := .ge) (o := 74) (t := 91) (c := 160 ≤ x5) (by decide +kernel) (ev_k_ge hx5 (by decide)) (by decide +kernel) ?_ ?_
    · intro c62
      exact hK91  s13 _ (by exact e7) (by exact e8) (by exact e9) (by exact e10) (by exact e11)
    · intro c62
      refine ev_r_aload_n (pc := 20) (k := 0) (v := .ref 3) trivial (by decide +kernel) (by exact e7) ?_
      refine ev_r_iload (pc := 21) (k := 4) (v := Int32.ofInt x4) (by decide +kernel) (by exact e11) ?_
      refine ev_r_virt (pc := 23) (y := 108) (mi := 84) (na := 1) (k := 3) (as := [.int (Int32.ofInt x4)]) (rest := []) (encc := ev_oI) (Q := ev_rng) (fun x S1 h => jt_84 d (by omega) Q x4 hx4 s13 x S1 h) (by exact ev_ob_3) (by decide +kernel) (by decide +kernel) (by decide +kernel) (by decide +kernel) rfl (by (try simp only [ev_sum, ev_nv_cat]); first | done | rfl) ?_
      intro x64 s63 hx64
      show ev_w _ _ _ _ _ [.int (Int32.ofInt x64)] _ _ _ _
      refine ev_r_stat (pc := 26) (y := 280) (kind := 2) (mi := 110) (na := 1) (as := [.int (Int32.ofInt x64)]) (rest := []) (encc := ev_oI) (Q := ev_rng) (fun x S1 h => jt_110 d (by omega) Q x64 hx64 s63 x S1 h) (Or.inl rfl) (by decide +kernel) (by decide +kernel) (by decide +kernel) (by decide +kernel) rfl (by (try simp only [ev_sum, ev_nv_cat]); first | done | rfl) ?_
      intro x66 s65 hx66
      show ev_w _ _ _ _ _ [.int (Int32.ofInt x66)] _ _ _ _
      refine ev_r_istore (pc := 29) (k := 6) (by decide +kernel) (by decide +kernel) rfl ?_
      refine ev_r_iload (pc := 31) (k := 6) (v := Int32.ofInt x66) (by decide +kernel) (by exact ev_lk_st1_self) ?_
      refine ev_r_jn (Q := fun K => ∀ (x67 : Int) (hx67 : ev_rng x67), ∀ (s76 : ev_St) (w68 : List (Nat × Value)), ev_lk w68 0 = some (.ref 3) → ev_lk w68 1 = some (.int (Int32.ofInt x1)) → ev_lk w68 2 = some (.int (Int32.ofInt x2)) → ev_lk w68 3 = some (.int (Int32.ofInt x3)) → ev_lk w68 4 = some (.int (Int32.ofInt x4)) → ev_lk w68 5 = some (.int (Int32.ofInt x5)) → ev_lk w68 6 = some (.int (Int32.ofInt x67)) → ev_w none (ev_Mof 109) d 54 w68 [] s76 (K x67 s76) ev_eI ev_bl) ?_ ?_
      · intro x67 hx67 s76 w68 e69 e70 e71 e72 e73 e74 e75
        refine ev_r_iload_n (pc := 54) (k := 3) (v := Int32.ofInt x3) (by decide +kernel) (by exact e72) ?_
        refine ev_r_jn (Q := fun K => ∀ (x77 : Int) (hx77 : ev_rng x77), ∀ (x78 : Int) (hx78 : ev_rng x78), ∀ (x79 : Int) (hx79 : ev_rng x79), ∀ (s87 : ev_St) (w80 : List (Nat × Value)), ev_lk w80 0 = some (.ref 3) → ev_lk w80 1 = some (.int (Int32.ofInt x77)) → ev_lk w80 2 = some (.int (Int32.ofInt x78)) → ev_lk w80 3 = some (.int (Int32.ofInt x79)) → ev_lk w80 4 = some (.int (Int32.ofInt x4)) → ev_lk w80 5 = some (.int (Int32.ofInt x5)) → ev_w none (ev_Mof 109) d 82 w80 [] s87 (K x77 x78 x79 s87) ev_eI ev_bl) ?_ ?_
        · intro x77 hx77 x78 hx78 x79 hx79 s87 w80 e81 e82 e83 e84 e85 e86
          refine ev_r_iinc (pc := 82) (k := 4) (c := 1) (x := x4) (by decide +kernel) (by decide +kernel) (by exact e85) (fun _ => rfl) ?_
          intro x88 hx88
          refine ev_r_iinc (pc := 85) (k := 5) (c := 1) (x := x5) (by decide +kernel) (by decide +kernel) (by exact (ev_l1 e86 (by decide) (by decide))) (fun _ => rfl) ?_
          intro x89 hx89
          refine ev_r_goto (pc := 88) (o := (-76)) (t := 12) (by decide +kernel) (by decide +kernel) ?_
          exact hK12 x77 hx77 x78 hx78 x79 hx79 x88 hx88 x89 hx89 s87 _ (by exact (ev_l1 (ev_l1 e81 (by decide) (by decide)) (by decide) (by decide))) (by exact (ev_l1 (ev_l1 e82 (by decide) (by decide)) (by decide) (by decide))) (by exact (ev_l1 (ev_l1 e83 (by decide) (by decide)) (by decide) (by decide))) (by exact (ev_l1 (ev_lk_st1 e84 (by decide) rfl) (by decide) (by decide))) (by exact (ev_lk_st1 ev_lk_st1_self (by decide) rfl)) (by exact ev_lk_st1_self)
        · intro K82 hK82
          refine ev_r_if (pc := 55) (q := .eq) (o := 11) (t := 66) (c := x3 = 0) (by decide +kernel) (ev_k_eq hx3 ev_rng0) (by decide +kernel) ?_ ?_
          · intro c90
            refine ev_r_iload_n (pc := 66) (k := 1) (v := Int32.ofInt x1) (by decide +kernel) (by exact e70) ?_
            refine ev_r_iload (pc := 67) (k := 6) (v := Int32.ofInt x67) (by decide +kernel) (by exact e75) ?_
            refine ev_r_ior (pc := 69) (by decide +kernel) ?_
            intro x91 hx91
            refine ev_r_istore_n (pc := 70) (k := 1) (by decide +kernel) (by decide +kernel) rfl ?_
            refine ev_r_iload (pc := 71) (k := 6) (v := Int32.ofInt x67) (by decide +kernel) (by exact (ev_l1 e75 (by decide) (by decide))) ?_
            refine ev_r_jn (Q := fun K => ∀ (x92 : Int) (hx92 : ev_rng x92), ∀ (x93 : Int) (hx93 : ev_rng x93), ∀ (s100 : ev_St) (w94 : List (Nat × Value)), ev_lk w94 0 = some (.ref 3) → ev_lk w94 1 = some (.int (Int32.ofInt x92)) → ev_lk w94 2 = some (.int (Int32.ofInt x2)) → ev_lk w94 4 = some (.int (Int32.ofInt x4)) → ev_lk w94 5 = some (.int (Int32.ofInt x5)) → ev_w none (ev_Mof 109) d 81 w94 [.int (Int32.ofInt x93)] s100 (K x92 x93 s100) ev_eI ev_bl) ?_ ?_
            · intro x92 hx92 x93 hx93 s100 w94 e95 e96 e97 e98 e99
              refine ev_r_istore_n (pc := 81) (k := 3) (by decide +kernel) (by decide +kernel) rfl ?_
              exact hK82 x92 hx92 x2 hx2 x93 hx93 s100 _ (by exact (ev_l1 e95 (by decide) (by decide))) (by exact (ev_l1 e96 (by decide) (by decide))) (by exact (ev_lk_st1 e97 (by decide) rfl)) (by exact ev_lk_st1_self) (by exact (ev_l1 e98 (by decide) (by decide))) (by exact (ev_l1 e99 (by decide) (by decide)))
            · intro K81 hK81
              refine ev_r_if (pc := 73) (q := .ne) (o := 7) (t := 80) (c := x67 ≠ 0) (by decide +kernel) (ev_k_ne hx67 ev_rng0) (by decide +kernel) ?_ ?_
              · intro c101
                refine ev_r_iconst (pc := 80) (k := 0) (by decide +kernel) ?_
                exact hK81 x91 hx91 0 (by decide) s76 _ (by exact (ev_lk_st1 e69 (by decide) rfl)) (by exact ev_lk_st1_self) (by exact (ev_l1 e71 (by decide) (by decide))) (by exact (ev_l1 e73 (by decide) (by decide))) (by exact (ev_l1 e74 (by decide) (by decide)))
              · intro c101
                refine ev_r_iconst (pc := 76) (k := 1) (by decide +kernel) ?_
                refine ev_r_goto (pc := 77) (o := 4) (t := 81) (by decide +kernel) (by decide +kernel) ?_
                exact hK81 x91 hx91 1 (by decide) s76 _ (by exact (ev_lk_st1 e69 (by decide) rfl)) (by exact ev_lk_st1_self) (by exact (ev_l1 e71 (by decide) (by decide))) (by exact (ev_l1 e73 (by decide) (by decide))) (by exact (ev_l1 e74 (by decide) (by decide)))
          · intro c90
            refine ev_r_iload_n (pc := 58) (k := 2) (v := Int32.ofInt x2) (by decide +kernel) (by exact e71) ?_
            refine ev_r_iload (pc := 59) (k := 6) (v := Int32.ofInt x67) (by decide +kernel) (by exact e75) ?_
            refine ev_r_ior (pc := 61) (by decide +kernel) ?_
            intro x102 hx102
            refine ev_r_istore_n (pc := 62) (k := 2) (by decide +kernel) (by decide +kernel) rfl ?_
            refine ev_r_goto (pc := 63) (o := 19) (t := 82) (by decide +kernel) (by decide +kernel) ?_
            exact hK82 x1 hx1 x102 hx102 x3 hx3 s76 _ (by exact (ev_l1 e69 (by decide) (by decide))) (by exact (ev_lk_st1 e70 (by decide) rfl)) (by exact ev_lk_st1_self) (by exact (ev_l1 e72 (by decide) (by decide))) (by exact (ev_l1 e73 (by decide) (by decide))) (by exact (ev_l1 e74 (by decide) (by decide)))
      · intro K54 hK54
        refine ev_r_if (pc := 33) (q := .ne) (o := 21) (t := 54) (c := x66 ≠ 0) (by decide +kernel) (ev_k_ne hx66 ev_rng0) (by decide +kernel) ?_ ?_
        · intro c103
          exact hK54 x66 hx66 s65 _ (by exact (ev_l1 e7 (by decide) (by decide))) (by exact (ev_l1 e8 (by decide) (by decide))) (by exact (ev_l1 e9 (by decide) (by decide))) (by exact (ev_l1 e10 (by decide) (by decide))) (by exact (ev_l1 e11 (by decide) (by decide))) (by exact (ev_lk_st1 e12 (by decide) rfl)) (by exact ev_lk_st1_self)
        · intro c103
          refine ev_r_aload_n (pc := 36) (k := 0) (v := .ref 3) trivial (by decide +kernel) (by exact (ev_l1 e7 (by decide) (by decide))) ?_
          refine ev_r_iload (pc := 37) (k := 4) (v := Int32.ofInt x4) (by decide +kernel) (by exact (ev_l1 e11 (by decide) (by decide))) ?_
          refine ev_r_virt (pc := 39) (y := 108) (mi := 84) (na := 1) (k := 3) (as := [.int (Int32.ofInt x4)]) (rest := []) (encc := ev_oI) (Q := ev_rng) (fun x S1 h => jt_84 d (by omega) Q x4 hx4 s65 x S1 h) (by exact ev_ob_3) (by decide +kernel) (by decide +kernel) (by decide +kernel) (by decide +kernel) rfl (by (try simp only [ev_sum, ev_nv_cat]); first | done | rfl) ?_
          intro x105 s104 hx105
          show ev_w _ _ _ _ _ [.int (Int32.ofInt x105)] _ _ _ _
          refine ev_r_bipush (pc := 42) (k := 45) (by decide +kernel) (by decide +kernel) ?_
          refine ev_r_icmp (pc := 44) (q := .ne) (o := 47) (t := 91) (c := x105 ≠ 45) (by decide +kernel) (ev_k_ne hx105 (by decide)) (by decide +kernel) ?_ ?_
          · intro c106
            exact hK91  s104 _ (by exact (ev_l1 e7 (by decide) (by decide))) (by exact (ev_l1 e8 (by decide) (by decide))) (by exact (ev_l1 e9 (by decide) (by decide))) (by exact (ev_l1 e10 (by decide) (by decide))) (by exact (ev_l1 e11 (by decide) (by decide)))
          · intro c106
            refine ev_r_iload_n (pc := 47) (k := 3) (v := Int32.ofInt x3) (by decide +kernel) (by exact (ev_l1 e10 (by decide) (by decide))) ?_
            refine ev_r_if (pc := 48) (q := .eq) (o := 6) (t := 54) (c := x3 = 0) (by decide +kernel) (ev_k_eq hx3 ev_rng0) (by decide +kernel) ?_ ?_
            · intro c107
              exact hK54 x66 hx66 s104 _ (by exact (ev_l1 e7 (by decide) (by decide))) (by exact (ev_l1 e8 (by decide) (by decide))) (by exact (ev_l1 e9 (by decide) (by decide))) (by exact (ev_l1 e10 (by decide) (by decide))) (by exact (ev_l1 e11 (by decide) (by decide))) (by exact (ev_lk_st1 e12 (by decide) rfl)) (by exact ev_lk_st1_self)
            · intro c107
              refine ev_r_goto (pc := 51) (o := 40) (t := 91) (by decide +kernel) (by decide +kernel) ?_
              exact hK91  s104 _ (by exact (ev_l1 e7 (by decide) (by decide))) (by exact (ev_l1 e8 (by decide) (by decide))) (by exact (ev_l1 e9 (by decide) (by decide))) (by exact (ev_l1 e10 (by decide) (by decide))) (by exact (ev_l1 e11 (by decide) (by decide)))
theorem jlt_109_12 (d : Nat) (hd : 3 ≤ d + 1) (Q : Nat)     : ∀ q : Nat, ∀ (x1 : Int) (hx1 : ev_rng x1), ∀ (x2 : Int) (hx2 : ev_rng x2), ∀ (x3 : Int) (hx3 : ev_rng x3), ∀ (x4 : Int) (hx4 : ev_rng x4), ∀ (x5 : Int) (hx5 : ev_rng x5), ∀ (s13 : ev_St) (w6 : List (Nat × Value)), ev_lk w6 0 = some (.ref 3) → ev_lk w6 1 = some (.int (Int32.ofInt x1)) → ev_lk w6 2 = some (.int (Int32.ofInt x2)) → ev_lk w6 3 = some (.int (Int32.ofInt x3)) → ev_lk w6 4 = some (.int (Int32.ofInt x4)) → ev_lk w6 5 = some (.int (Int32.ofInt x5)) → ev_w none (ev_Mof 109) d 12 w6 [] s13 (jl_109_12 Q   q x1 x2 x3 x4 x5 s13) ev_eI ev_bl := by
  intro q
  induction q with
  | zero =>
    intro x1 hx1 x2 hx2 x3 hx3 x4 hx4 x5 hx5 s13 w6 e7 e8 e9 e10 e11 e12
    exact ev_w_none
  | succ q ih => exact jbt_109_12 d hd Q     _ ih
/-- MendBench$Reader.readSwitches()Z -/
def jm_109 (Q : Nat)  (S : ev_St) : Option ((Int) × ev_St) := jl_109_12 Q   Q 0 0 0 1 0 S
theorem jt_109 (d : Nat) (hd : 3 ≤ d) (Q : Nat)   (S : ev_St) (x : Int) (S' : ev_St) (hJ : jm_109 Q  S = some (x, S')) : ev_Ref d 109 [.ref 3] S (ev_eI x) S' (ev_bl x) := by
  obtain ⟨d, rfl⟩ : ∃ e, d = e + 1 := ⟨d - 1, by omega⟩
  refine ev_ref_of (P := ev_bl) (lv := [(0, .ref 3)]) (by decide +kernel) (by (try simp only [ev_sum, ev_nv_cat]); first | done | rfl) (by (try simp only [lv_args, ev_nv_cat]); first | done | rfl) ?_ x S' hJ
  unfold jm_109
  refine ev_r_iconst (pc := 0) (k := 0) (by decide +kernel) ?_
  refine ev_r_istore_n (pc := 1) (k := 1) (by decide +kernel) (by decide +kernel) rfl ?_
  refine ev_r_iconst (pc := 2) (k := 0) (by decide +kernel) ?_
  refine ev_r_istore_n (pc := 3) (k := 2) (by decide +kernel) (by decide +kernel) rfl ?_
  refine ev_r_iconst (pc := 4) (k := 0) (by decide +kernel) ?_
  refine ev_r_istore_n (pc := 5) (k := 3) (by decide +kernel) (by decide +kernel) rfl ?_
  refine ev_r_iconst (pc := 6) (k := 1) (by decide +kernel) ?_
  refine ev_r_istore (pc := 7) (k := 4) (by decide +kernel) (by decide +kernel) rfl ?_
  refine ev_r_iconst (pc := 9) (k := 0) (by decide +kernel) ?_
  refine ev_r_istore (pc := 10) (k := 5) (by decide +kernel) (by decide +kernel) rfl ?_
  exact jlt_109_12 d hd Q     Q 0 (by decide) 0 (by decide) 0 (by decide) 1 (by decide) 0 (by decide) S _ (by exact (ev_l1 (ev_l1 (ev_l1 (ev_l1 (ev_lk_st1 (by rfl) (by decide) rfl) (by decide) (by decide)) (by decide) (by decide)) (by decide) (by decide)) (by decide) (by decide))) (by exact (ev_l1 (ev_l1 (ev_l1 (ev_lk_st1 ev_lk_st1_self (by decide) rfl) (by decide) (by decide)) (by decide) (by decide)) (by decide) (by decide))) (by exact (ev_l1 (ev_l1 (ev_lk_st1 ev_lk_st1_self (by decide) rfl) (by decide) (by decide)) (by decide) (by decide))) (by exact (ev_l1 (ev_lk_st1 ev_lk_st1_self (by decide) rfl) (by decide) (by decide))) (by exact (ev_lk_st1 ev_lk_st1_self (by decide) rfl)) (by exact ev_lk_st1_self)
