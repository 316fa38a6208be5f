/-! METHODS as functions, laid by decomp.py -/
theorem ev_ob_254 : ev_isOb 254 0 = true := (by decide +kernel)
theorem ev_el_255 {i : Int} (h : 0 ≤ i ∧ i < (3 : Int)) : ev_isOb (263 + 2 * i.toNat) 10 = true := (show ∀ j, j < 3 → ev_isOb (263 + 2 * j) 10 = true from (by decide +kernel)) i.toNat (by omega)
theorem ev_ab_256 : ev_isAb 256 1 .int = true := (by decide +kernel)
theorem ev_ab_258 : ev_isAb 258 1 .int = true := (by decide +kernel)
theorem ev_ab_257 : ev_isAb 257 1 .boolean = true := (by decide +kernel)
theorem ev_ab_261 : ev_isAb 261 1 .int = true := (by decide +kernel)
theorem ev_fo_10_0 {k : Nat} (h : ev_isOb k 10 = true) : ev_isAb (k + 1) 1 .int = true := ev_foA (by decide +kernel) h
theorem ev_ab_262 : ev_isAb 262 1 .int = true := (by decide +kernel)
theorem ev_ob_6 : ev_isOb 6 1 = true := (by decide +kernel)
theorem ev_ab_9 : ev_isAb 9 2 .long = true := (by decide +kernel)
theorem ev_ab_10 : ev_isAb 10 2 .long = true := (by decide +kernel)
theorem ev_ab_11 : ev_isAb 11 1 .boolean = true := (by decide +kernel)
theorem ev_ab_7 : ev_isAb 7 2 .long = true := (by decide +kernel)
theorem ev_ab_8 : ev_isAb 8 2 .long = true := (by decide +kernel)
theorem ev_ab_13 : ev_isAb 13 1 .int = true := (by decide +kernel)
theorem ev_ab_12 : ev_isAb 12 1 .boolean = true := (by decide +kernel)
theorem ev_ob_221 : ev_isOb 221 2 = true := (by decide +kernel)
theorem ev_fo_5_3 {k : Nat} (h : ev_isOb k 5 = true) : ev_isAb (k + 4) 1 .int = true := ev_foA (by decide +kernel) h
theorem ev_fo_5_1 {k : Nat} (h : ev_isOb k 5 = true) : ev_isAb (k + 2) 1 .int = true := ev_foA (by decide +kernel) h
theorem ev_fo_5_2 {k : Nat} (h : ev_isOb k 5 = true) : ev_isAb (k + 3) 1 .int = true := ev_foA (by decide +kernel) h
theorem ev_ab_222 : ev_isAb 222 1 .int = true := (by decide +kernel)
theorem ev_ab_223 : ev_isAb 223 1 .int = true := (by decide +kernel)
theorem ev_ab_227 : ev_isAb 227 2 .long = true := (by decide +kernel)
theorem ev_ab_226 : ev_isAb 226 2 .long = true := (by decide +kernel)
theorem ev_ab_225 : ev_isAb 225 2 .long = true := (by decide +kernel)
theorem ev_ab_224 : ev_isAb 224 2 .long = true := (by decide +kernel)
theorem ev_fo_5_4 {k : Nat} (h : ev_isOb k 5 = true) : ev_isAb (k + 5) 1 .int = true := ev_foA (by decide +kernel) h
/-- MendBench$Buffers.textAt(I)LMendBench$Text; -/
def jm_1 (Q : Nat) (a0 : Int) (S : ev_St) : Option ((Nat) × ev_St) := if a0 < 0 then (some (0, S)) else (if 3 ≤ a0 then (some (0, S)) else (ev_if ((0 : Int) ≤ a0 ∧ a0 < (3 : Int)) (ev_b (263 + 2 * Int.toNat a0) fun _ => some (((263 + 2 * Int.toNat a0)) + 1, S))))
theorem jt_1 (d : Nat) (hd : 1 ≤ d) (Q : Nat) (a0 : Int) (ha0 : ev_rng a0) (S : ev_St) (x : Nat) (S' : ev_St) (hJ : jm_1 Q a0 S = some (x, S')) : ev_Ref d 1 [.ref 254, .int (Int32.ofInt a0)] S (ev_eR x) S' ((fun r => r = 0 ∨ ev_isOb (r - 1) 10 = true) x) := by
  obtain ⟨d, rfl⟩ : ∃ e, d = e + 1 := ⟨d - 1, by omega⟩
  refine ev_ref_of (P := (fun r => r = 0 ∨ ev_isOb (r - 1) 10 = true)) (lv := [(0, .ref 254), (1, .int (Int32.ofInt a0))]) (by decide +kernel) (by (try simp only [ev_sum, ev_nv_cat]); first | done | rfl) (by (try simp only [lv_args, ev_nv_cat]); first | done | rfl) ?_ x S' hJ
  unfold jm_1
  refine ev_r_iload_n (pc := 0) (k := 1) (v := Int32.ofInt a0) (by decide +kernel) (by rfl) ?_
  refine ev_r_if (pc := 1) (q := .lt) (o := 17) (t := 18) (c := a0 < 0) (by decide +kernel) (ev_k_lt ha0 ev_rng0) (by decide +kernel) ?_ ?_
  · intro c1
    refine ev_r_null (pc := 18) (by decide +kernel) ?_
    exact ev_r_areturn (pc := 19) (x := 0) (r := 0) (C := "MendBench$Text") (Or.inl rfl) (by decide +kernel) (by decide +kernel) rfl
  · intro c1
    refine ev_r_iload_n (pc := 4) (k := 1) (v := Int32.ofInt a0) (by decide +kernel) (by rfl) ?_
    refine ev_r_iconst (pc := 5) (k := 3) (by decide +kernel) ?_
    refine ev_r_icmp (pc := 6) (q := .ge) (o := 12) (t := 18) (c := 3 ≤ a0) (by decide +kernel) (ev_k_ge ha0 (by decide)) (by decide +kernel) ?_ ?_
    · intro c2
      refine ev_r_null (pc := 18) (by decide +kernel) ?_
      exact ev_r_areturn (pc := 19) (x := 0) (r := 0) (C := "MendBench$Text") (Or.inl rfl) (by decide +kernel) (by decide +kernel) rfl
    · intro c2
      refine ev_r_aload_n (pc := 9) (k := 0) (v := .ref 254) trivial (by decide +kernel) (by rfl) ?_
      refine ev_r_getC (pc := 10) (y := 13) (ci := 0) (f := 0) (fin := 1) (k' := 255) (by decide +kernel) (by decide +kernel) (by exact ev_ob_254) rfl rfl ?_
      refine ev_r_iload_n (pc := 13) (k := 1) (v := Int32.ofInt a0) (by decide +kernel) (by rfl) ?_
      refine ev_r_aald (pc := 14) (N := 3) (b := 263) (c := 2) (C := "MendBench$Text") ha0 (by decide +kernel) (by decide +kernel) ?_
      intro c3
      refine ev_r_goto (pc := 15) (o := 4) (t := 19) (by decide +kernel) (by decide +kernel) ?_
      exact ev_r_areturn (pc := 19) (x := ((263 + 2 * Int.toNat a0)) + 1) (r := ((263 + 2 * Int.toNat a0)) + 1) (C := "MendBench$Text") (Or.inr (ev_el_255 c3)) (by decide +kernel) (by decide +kernel) rfl
/-- MendBench$Buffers.addMark(IIZ)I -/
def jm_2 (Q : Nat) (a0 : Int) (a1 : Int) (a2 : Int) (S : ev_St) : Option ((Int) × ev_St) := ev_b (S.1 254 4) fun x1 => if x1 < 0 then (some ((-1), S)) else (ev_b (S.1 254 4) fun x3 => if x3 < 12 then (ev_b (S.1 254 4) fun x5 => ev_if ((0 : Int) ≤ x5 ∧ x5 < (ev_aln 256 : Int)) (ev_b (ev_pI S 256 (Int.toNat x5) a0) fun s6 => ev_b (s6.1 254 4) fun x7 => ev_if ((0 : Int) ≤ x7 ∧ x7 < (ev_aln 258 : Int)) (ev_b (ev_pI s6 258 (Int.toNat x7) a1) fun s8 => ev_b (s8.1 254 4) fun x9 => ev_if (ev_bl a2) (ev_if ((0 : Int) ≤ x9 ∧ x9 < (ev_aln 257 : Int)) (ev_b (ev_pI s8 257 (Int.toNat x9) a2) fun s10 => ev_b (s10.1 254 4) fun x12 => ev_ck (x12 + 1) fun x13 => ev_b (ev_pI s10 254 4 x13) fun s14 => ev_b (s14.1 254 4) fun x15 => ev_ck (x15 - 1) fun x16 => some (x16, s14)))))) else (some ((-1), S)))
theorem jt_2 (d : Nat) (hd : 1 ≤ d) (Q : Nat) (a0 : Int) (a1 : Int) (a2 : Int) (ha0 : ev_rng a0) (ha1 : ev_rng a1) (ha2 : ev_rng a2) (S : ev_St) (x : Int) (S' : ev_St) (hJ : jm_2 Q a0 a1 a2 S = some (x, S')) : ev_Ref d 2 [.ref 254, .int (Int32.ofInt a0), .int (Int32.ofInt a1), .int (Int32.ofInt a2)] S (ev_eI x) S' (ev_rng x) := by
  obtain ⟨d, rfl⟩ : ∃ e, d = e + 1 := ⟨d - 1, by omega⟩
  refine ev_ref_of (P := ev_rng) (lv := [(0, .ref 254), (1, .int (Int32.ofInt a0)), (2, .int (Int32.ofInt a1)), (3, .int (Int32.ofInt a2))]) (by decide +kernel) (by (try simp only [ev_sum, ev_nv_cat]); first | done | rfl) (by (try simp only [lv_args, ev_nv_cat]); first | done | rfl) ?_ x S' hJ
  unfold jm_2
  refine ev_r_aload_n (pc := 0) (k := 0) (v := .ref 254) trivial (by decide +kernel) (by rfl) ?_
  refine ev_r_getI (pc := 1) (y := 46) (ci := 0) (f := 4) (fin := 0) (by decide +kernel) (by decide +kernel) (by exact ev_ob_254) rfl ?_
  intro x1 hx1
  refine ev_r_if (pc := 4) (q := .lt) (o := 12) (t := 16) (c := x1 < 0) (by decide +kernel) (ev_k_lt hx1 ev_rng0) (by decide +kernel) ?_ ?_
  · intro c2
    refine ev_r_iconst (pc := 16) (k := -1) (by decide +kernel) ?_
    exact ev_r_ireturn (pc := 17) (x := (-1)) (v := Int32.ofInt ((-1))) (ty := .int) (by decide) (by decide +kernel) (by decide +kernel) rfl rfl
  · intro c2
    refine ev_r_aload_n (pc := 7) (k := 0) (v := .ref 254) trivial (by decide +kernel) (by rfl) ?_
    refine ev_r_getI (pc := 8) (y := 46) (ci := 0) (f := 4) (fin := 0) (by decide +kernel) (by decide +kernel) (by exact ev_ob_254) rfl ?_
    intro x3 hx3
    refine ev_r_bipush (pc := 11) (k := 12) (by decide +kernel) (by decide +kernel) ?_
    refine ev_r_icmp (pc := 13) (q := .lt) (o := 5) (t := 18) (c := x3 < 12) (by decide +kernel) (ev_k_lt hx3 (by decide)) (by decide +kernel) ?_ ?_
    · intro c4
      refine ev_r_aload_n (pc := 18) (k := 0) (v := .ref 254) trivial (by decide +kernel) (by rfl) ?_
      refine ev_r_getC (pc := 19) (y := 17) (ci := 0) (f := 1) (fin := 1) (k' := 256) (by decide +kernel) (by decide +kernel) (by exact ev_ob_254) rfl rfl ?_
      refine ev_r_aload_n (pc := 22) (k := 0) (v := .ref 254) trivial (by decide +kernel) (by rfl) ?_
      refine ev_r_getI (pc := 23) (y := 46) (ci := 0) (f := 4) (fin := 0) (by decide +kernel) (by decide +kernel) (by exact ev_ob_254) rfl ?_
      intro x5 hx5
      refine ev_r_iload_n (pc := 26) (k := 1) (v := Int32.ofInt a0) (by decide +kernel) (by rfl) ?_
      refine ev_r_iast (pc := 27) ha0 hx5 (by decide +kernel) (by exact ev_ab_256) ?_
      intro s6
      refine ev_r_aload_n (pc := 28) (k := 0) (v := .ref 254) trivial (by decide +kernel) (by rfl) ?_
      refine ev_r_getC (pc := 29) (y := 25) (ci := 0) (f := 3) (fin := 1) (k' := 258) (by decide +kernel) (by decide +kernel) (by exact ev_ob_254) rfl rfl ?_
      refine ev_r_aload_n (pc := 32) (k := 0) (v := .ref 254) trivial (by decide +kernel) (by rfl) ?_
      refine ev_r_getI (pc := 33) (y := 46) (ci := 0) (f := 4) (fin := 0) (by decide +kernel) (by decide +kernel) (by exact ev_ob_254) rfl ?_
      intro x7 hx7
      refine ev_r_iload_n (pc := 36) (k := 2) (v := Int32.ofInt a1) (by decide +kernel) (by rfl) ?_
      refine ev_r_iast (pc := 37) ha1 hx7 (by decide +kernel) (by exact ev_ab_258) ?_
      intro s8
      refine ev_r_aload_n (pc := 38) (k := 0) (v := .ref 254) trivial (by decide +kernel) (by rfl) ?_
      refine ev_r_getC (pc := 39) (y := 21) (ci := 0) (f := 2) (fin := 1) (k' := 257) (by decide +kernel) (by decide +kernel) (by exact ev_ob_254) rfl rfl ?_
      refine ev_r_aload_n (pc := 42) (k := 0) (v := .ref 254) trivial (by decide +kernel) (by rfl) ?_
      refine ev_r_getI (pc := 43) (y := 46) (ci := 0) (f := 4) (fin := 0) (by decide +kernel) (by decide +kernel) (by exact ev_ob_254) rfl ?_
      intro x9 hx9
      refine ev_r_iload_n (pc := 46) (k := 3) (v := Int32.ofInt a2) (by decide +kernel) (by rfl) ?_
      refine ev_r_chk ?_
      intro c11
      refine ev_r_bast (pc := 47) (ty := .boolean) (Or.inr rfl) (ev_nar_bl c11) ha2 hx9 (by decide +kernel) (by exact ev_ab_257) ?_
      intro s10
      refine ev_r_aload_n (pc := 48) (k := 0) (v := .ref 254) trivial (by decide +kernel) (by rfl) ?_
      refine ev_r_dup (pc := 49) rfl (by decide +kernel) ?_
      refine ev_r_getI (pc := 50) (y := 46) (ci := 0) (f := 4) (fin := 0) (by decide +kernel) (by decide +kernel) (by exact ev_ob_254) rfl ?_
      intro x12 hx12
      refine ev_r_iconst (pc := 53) (k := 1) (by decide +kernel) ?_
      refine ev_r_iadd (pc := 54) (by decide +kernel) ?_
      intro x13 hx13
      refine ev_r_putI (pc := 55) (y := 46) (ci := 0) (f := 4) hx13 (by decide +kernel) (by decide +kernel) (by exact ev_ob_254) rfl rfl ?_
      intro s14
      refine ev_r_aload_n (pc := 58) (k := 0) (v := .ref 254) trivial (by decide +kernel) (by rfl) ?_
      refine ev_r_getI (pc := 59) (y := 46) (ci := 0) (f := 4) (fin := 0) (by decide +kernel) (by decide +kernel) (by exact ev_ob_254) rfl ?_
      intro x15 hx15
      refine ev_r_iconst (pc := 62) (k := 1) (by decide +kernel) ?_
      refine ev_r_isub (pc := 63) (by decide +kernel) ?_
      intro x16 hx16
      exact ev_r_ireturn (pc := 64) (x := x16) (v := Int32.ofInt x16) (ty := .int) hx16 (by decide +kernel) (by decide +kernel) rfl rfl
    · intro c4
      refine ev_r_iconst (pc := 16) (k := -1) (by decide +kernel) ?_
      exact ev_r_ireturn (pc := 17) (x := (-1)) (v := Int32.ofInt ((-1))) (ty := .int) (by decide) (by decide +kernel) (by decide +kernel) rfl rfl
/-- MendBench$Buffers.endCall()V -/
def jm_3 (Q : Nat)  (S : ev_St) : Option ((Unit) × ev_St) := ev_b (S.1 254 14) fun x1 => if x1 ≠ 0 then (some ((), S)) else (ev_b (S.1 254 11) fun x3 => if x3 = 0 then (some ((), S)) else (ev_b (S.1 254 12) fun x5 => if x5 < 0 then (some ((), S)) else (ev_b (S.1 254 12) fun x7 => if x7 < 1024 then (ev_b (S.1 254 12) fun x9 => ev_b (S.1 254 11) fun x10 => ev_if ((0 : Int) ≤ x9 ∧ x9 < (ev_aln 261 : Int)) (ev_b (ev_pI S 261 (Int.toNat x9) x10) fun s11 => ev_b (ev_pI s11 254 11 0) fun s12 => ev_b (s12.1 254 12) fun x13 => ev_ck (x13 + 1) fun x14 => ev_b (ev_pI s12 254 12 x14) fun s15 => ev_b (s15.1 254 12) fun x16 => ev_b (ev_pI s15 254 13 x16) fun s17 => some ((), s17))) else (some ((), S)))))
theorem jt_3 (d : Nat) (hd : 1 ≤ d) (Q : Nat)   (S : ev_St) (x : Unit) (S' : ev_St) (hJ : jm_3 Q  S = some (x, S')) : ev_Ref d 3 [.ref 254] S (ev_eU x) S' (ev_PU x) := by
  obtain ⟨d, rfl⟩ : ∃ e, d = e + 1 := ⟨d - 1, by omega⟩
  refine ev_ref_of (P := ev_PU) (lv := [(0, .ref 254)]) (by decide +kernel) (by (try simp only [ev_sum, ev_nv_cat]); first | done | rfl) (by (try simp only [lv_args, ev_nv_cat]); first | done | rfl) ?_ x S' hJ
  unfold jm_3
  refine ev_r_aload_n (pc := 0) (k := 0) (v := .ref 254) trivial (by decide +kernel) (by rfl) ?_
  refine ev_r_getI (pc := 1) (y := 50) (ci := 0) (f := 14) (fin := 0) (by decide +kernel) (by decide +kernel) (by exact ev_ob_254) rfl ?_
  intro x1 hx1
  refine ev_r_if (pc := 4) (q := .ne) (o := 27) (t := 31) (c := x1 ≠ 0) (by decide +kernel) (ev_k_ne hx1 ev_rng0) (by decide +kernel) ?_ ?_
  · intro c2
    exact ev_r_return (pc := 31) (x := ()) trivial (by decide +kernel) (by decide +kernel) rfl
  · intro c2
    refine ev_r_aload_n (pc := 7) (k := 0) (v := .ref 254) trivial (by decide +kernel) (by rfl) ?_
    refine ev_r_getI (pc := 8) (y := 54) (ci := 0) (f := 11) (fin := 0) (by decide +kernel) (by decide +kernel) (by exact ev_ob_254) rfl ?_
    intro x3 hx3
    refine ev_r_if (pc := 11) (q := .eq) (o := 20) (t := 31) (c := x3 = 0) (by decide +kernel) (ev_k_eq hx3 ev_rng0) (by decide +kernel) ?_ ?_
    · intro c4
      exact ev_r_return (pc := 31) (x := ()) trivial (by decide +kernel) (by decide +kernel) rfl
    · intro c4
      refine ev_r_aload_n (pc := 14) (k := 0) (v := .ref 254) trivial (by decide +kernel) (by rfl) ?_
      refine ev_r_getI (pc := 15) (y := 57) (ci := 0) (f := 12) (fin := 0) (by decide +kernel) (by decide +kernel) (by exact ev_ob_254) rfl ?_
      intro x5 hx5
      refine ev_r_if (pc := 18) (q := .lt) (o := 13) (t := 31) (c := x5 < 0) (by decide +kernel) (ev_k_lt hx5 ev_rng0) (by decide +kernel) ?_ ?_
      · intro c6
        exact ev_r_return (pc := 31) (x := ()) trivial (by decide +kernel) (by decide +kernel) rfl
      · intro c6
        refine ev_r_aload_n (pc := 21) (k := 0) (v := .ref 254) trivial (by decide +kernel) (by rfl) ?_
        refine ev_r_getI (pc := 22) (y := 57) (ci := 0) (f := 12) (fin := 0) (by decide +kernel) (by decide +kernel) (by exact ev_ob_254) rfl ?_
        intro x7 hx7
        refine ev_r_sipush (pc := 25) (k := 1024) (by decide +kernel) (by decide +kernel) ?_
        refine ev_r_icmp (pc := 28) (q := .lt) (o := 4) (t := 32) (c := x7 < 1024) (by decide +kernel) (ev_k_lt hx7 (by decide)) (by decide +kernel) ?_ ?_
        · intro c8
          refine ev_r_aload_n (pc := 32) (k := 0) (v := .ref 254) trivial (by decide +kernel) (by rfl) ?_
          refine ev_r_getC (pc := 33) (y := 39) (ci := 0) (f := 7) (fin := 1) (k' := 261) (by decide +kernel) (by decide +kernel) (by exact ev_ob_254) rfl rfl ?_
          refine ev_r_aload_n (pc := 36) (k := 0) (v := .ref 254) trivial (by decide +kernel) (by rfl) ?_
          refine ev_r_getI (pc := 37) (y := 57) (ci := 0) (f := 12) (fin := 0) (by decide +kernel) (by decide +kernel) (by exact ev_ob_254) rfl ?_
          intro x9 hx9
          refine ev_r_aload_n (pc := 40) (k := 0) (v := .ref 254) trivial (by decide +kernel) (by rfl) ?_
          refine ev_r_getI (pc := 41) (y := 54) (ci := 0) (f := 11) (fin := 0) (by decide +kernel) (by decide +kernel) (by exact ev_ob_254) rfl ?_
          intro x10 hx10
          refine ev_r_iast (pc := 44) hx10 hx9 (by decide +kernel) (by exact ev_ab_261) ?_
          intro s11
          refine ev_r_aload_n (pc := 45) (k := 0) (v := .ref 254) trivial (by decide +kernel) (by rfl) ?_
          refine ev_r_iconst (pc := 46) (k := 0) (by decide +kernel) ?_
          refine ev_r_putI (pc := 47) (y := 54) (ci := 0) (f := 11) (by decide) (by decide +kernel) (by decide +kernel) (by exact ev_ob_254) rfl rfl ?_
          intro s12
          refine ev_r_aload_n (pc := 50) (k := 0) (v := .ref 254) trivial (by decide +kernel) (by rfl) ?_
          refine ev_r_dup (pc := 51) rfl (by decide +kernel) ?_
          refine ev_r_getI (pc := 52) (y := 57) (ci := 0) (f := 12) (fin := 0) (by decide +kernel) (by decide +kernel) (by exact ev_ob_254) rfl ?_
          intro x13 hx13
          refine ev_r_iconst (pc := 55) (k := 1) (by decide +kernel) ?_
          refine ev_r_iadd (pc := 56) (by decide +kernel) ?_
          intro x14 hx14
          refine ev_r_putI (pc := 57) (y := 57) (ci := 0) (f := 12) hx14 (by decide +kernel) (by decide +kernel) (by exact ev_ob_254) rfl rfl ?_
          intro s15
          refine ev_r_aload_n (pc := 60) (k := 0) (v := .ref 254) trivial (by decide +kernel) (by rfl) ?_
          refine ev_r_aload_n (pc := 61) (k := 0) (v := .ref 254) trivial (by decide +kernel) (by rfl) ?_
          refine ev_r_getI (pc := 62) (y := 57) (ci := 0) (f := 12) (fin := 0) (by decide +kernel) (by decide +kernel) (by exact ev_ob_254) rfl ?_
          intro x16 hx16
          refine ev_r_putI (pc := 65) (y := 60) (ci := 0) (f := 13) hx16 (by decide +kernel) (by decide +kernel) (by exact ev_ob_254) rfl rfl ?_
          intro s17
          exact ev_r_return (pc := 68) (x := ()) trivial (by decide +kernel) (by decide +kernel) rfl
        · intro c8
          exact ev_r_return (pc := 31) (x := ()) trivial (by decide +kernel) (by decide +kernel) rfl
/-- MendBench$Buffers.hasRoom(I)Z -/
def jm_11 (Q : Nat) (a0 : Int) (S : ev_St) : Option ((Int) × ev_St) := ev_b (S.1 254 9) fun x1 => if 524288 ≤ x1 then (some (0, S)) else (ev_b (S.1 254 10) fun x3 => ev_ck (x3 + a0) fun x4 => if 1048576 < x4 then (some (0, S)) else (ev_b (S.1 254 12) fun x6 => if 1024 ≤ x6 then (some (0, S)) else (some (1, S))))
theorem jt_11 (d : Nat) (hd : 1 ≤ d) (Q : Nat) (a0 : Int) (ha0 : ev_rng a0) (S : ev_St) (x : Int) (S' : ev_St) (hJ : jm_11 Q a0 S = some (x, S')) : ev_Ref d 11 [.ref 254, .int (Int32.ofInt a0)] S (ev_eI x) S' (ev_bl x) := by
  obtain ⟨d, rfl⟩ : ∃ e, d = e + 1 := ⟨d - 1, by omega⟩
  refine ev_ref_of (P := ev_bl) (lv := [(0, .ref 254), (1, .int (Int32.ofInt a0))]) (by decide +kernel) (by (try simp only [ev_sum, ev_nv_cat]); first | done | rfl) (by (try simp only [lv_args, ev_nv_cat]); first | done | rfl) ?_ x S' hJ
  unfold jm_11
  refine ev_r_aload_n (pc := 0) (k := 0) (v := .ref 254) trivial (by decide +kernel) (by rfl) ?_
  refine ev_r_getI (pc := 1) (y := 74) (ci := 0) (f := 9) (fin := 0) (by decide +kernel) (by decide +kernel) (by exact ev_ob_254) rfl ?_
  intro x1 hx1
  refine ev_r_ldc (pc := 4) (y := 115) (k := 524288) (by decide +kernel) (by decide +kernel) ?_
  refine ev_r_icmp (pc := 6) (q := .ge) (o := 28) (t := 34) (c := 524288 ≤ x1) (by decide +kernel) (ev_k_ge hx1 (by decide)) (by decide +kernel) ?_ ?_
  · intro c2
    refine ev_r_iconst (pc := 34) (k := 0) (by decide +kernel) ?_
    exact ev_r_ireturn (pc := 35) (x := 0) (v := Int32.ofInt 0) (ty := .boolean) (by decide : ev_bl 0) (by decide +kernel) (by decide +kernel) (ev_ret_bl (by decide : ev_bl 0)) rfl
  · intro c2
    refine ev_r_aload_n (pc := 9) (k := 0) (v := .ref 254) trivial (by decide +kernel) (by rfl) ?_
    refine ev_r_getI (pc := 10) (y := 82) (ci := 0) (f := 10) (fin := 0) (by decide +kernel) (by decide +kernel) (by exact ev_ob_254) rfl ?_
    intro x3 hx3
    refine ev_r_iload_n (pc := 13) (k := 1) (v := Int32.ofInt a0) (by decide +kernel) (by rfl) ?_
    refine ev_r_iadd (pc := 14) (by decide +kernel) ?_
    intro x4 hx4
    refine ev_r_ldc (pc := 15) (y := 116) (k := 1048576) (by decide +kernel) (by decide +kernel) ?_
    refine ev_r_icmp (pc := 17) (q := .gt) (o := 17) (t := 34) (c := 1048576 < x4) (by decide +kernel) (ev_k_gt hx4 (by decide)) (by decide +kernel) ?_ ?_
    · intro c5
      refine ev_r_iconst (pc := 34) (k := 0) (by decide +kernel) ?_
      exact ev_r_ireturn (pc := 35) (x := 0) (v := Int32.ofInt 0) (ty := .boolean) (by decide : ev_bl 0) (by decide +kernel) (by decide +kernel) (ev_ret_bl (by decide : ev_bl 0)) rfl
    · intro c5
      refine ev_r_aload_n (pc := 20) (k := 0) (v := .ref 254) trivial (by decide +kernel) (by rfl) ?_
      refine ev_r_getI (pc := 21) (y := 57) (ci := 0) (f := 12) (fin := 0) (by decide +kernel) (by decide +kernel) (by exact ev_ob_254) rfl ?_
      intro x6 hx6
      refine ev_r_sipush (pc := 24) (k := 1024) (by decide +kernel) (by decide +kernel) ?_
      refine ev_r_icmp (pc := 27) (q := .ge) (o := 7) (t := 34) (c := 1024 ≤ x6) (by decide +kernel) (ev_k_ge hx6 (by decide)) (by decide +kernel) ?_ ?_
      · intro c7
        refine ev_r_iconst (pc := 34) (k := 0) (by decide +kernel) ?_
        exact ev_r_ireturn (pc := 35) (x := 0) (v := Int32.ofInt 0) (ty := .boolean) (by decide : ev_bl 0) (by decide +kernel) (by decide +kernel) (ev_ret_bl (by decide : ev_bl 0)) rfl
      · intro c7
        refine ev_r_iconst (pc := 30) (k := 1) (by decide +kernel) ?_
        refine ev_r_goto (pc := 31) (o := 4) (t := 35) (by decide +kernel) (by decide +kernel) ?_
        exact ev_r_ireturn (pc := 35) (x := 1) (v := Int32.ofInt 1) (ty := .boolean) (by decide : ev_bl 1) (by decide +kernel) (by decide +kernel) (ev_ret_bl (by decide : ev_bl 1)) rfl
/-- MendBench$Buffers.forget()V -/
def jm_12 (Q : Nat)  (S : ev_St) : Option ((Unit) × ev_St) := ev_b (ev_pI S 254 9 0) fun s1 => ev_b (ev_pI s1 254 10 0) fun s2 => ev_b (ev_pI s2 254 11 0) fun s3 => ev_b (ev_pI s3 254 12 0) fun s4 => ev_b (ev_pI s4 254 13 0) fun s5 => some ((), s5)
theorem jt_12 (d : Nat) (hd : 1 ≤ d) (Q : Nat)   (S : ev_St) (x : Unit) (S' : ev_St) (hJ : jm_12 Q  S = some (x, S')) : ev_Ref d 12 [.ref 254] S (ev_eU x) S' (ev_PU x) := by
  obtain ⟨d, rfl⟩ : ∃ e, d = e + 1 := ⟨d - 1, by omega⟩
  refine ev_ref_of (P := ev_PU) (lv := [(0, .ref 254)]) (by decide +kernel) (by (try simp only [ev_sum, ev_nv_cat]); first | done | rfl) (by (try simp only [lv_args, ev_nv_cat]); first | done | rfl) ?_ x S' hJ
  unfold jm_12
  refine ev_r_aload_n (pc := 0) (k := 0) (v := .ref 254) trivial (by decide +kernel) (by rfl) ?_
  refine ev_r_iconst (pc := 1) (k := 0) (by decide +kernel) ?_
  refine ev_r_putI (pc := 2) (y := 74) (ci := 0) (f := 9) (by decide) (by decide +kernel) (by decide +kernel) (by exact ev_ob_254) rfl rfl ?_
  intro s1
  refine ev_r_aload_n (pc := 5) (k := 0) (v := .ref 254) trivial (by decide +kernel) (by rfl) ?_
  refine ev_r_iconst (pc := 6) (k := 0) (by decide +kernel) ?_
  refine ev_r_putI (pc := 7) (y := 82) (ci := 0) (f := 10) (by decide) (by decide +kernel) (by decide +kernel) (by exact ev_ob_254) rfl rfl ?_
  intro s2
  refine ev_r_aload_n (pc := 10) (k := 0) (v := .ref 254) trivial (by decide +kernel) (by rfl) ?_
  refine ev_r_iconst (pc := 11) (k := 0) (by decide +kernel) ?_
  refine ev_r_putI (pc := 12) (y := 54) (ci := 0) (f := 11) (by decide) (by decide +kernel) (by decide +kernel) (by exact ev_ob_254) rfl rfl ?_
  intro s3
  refine ev_r_aload_n (pc := 15) (k := 0) (v := .ref 254) trivial (by decide +kernel) (by rfl) ?_
  refine ev_r_iconst (pc := 16) (k := 0) (by decide +kernel) ?_
  refine ev_r_putI (pc := 17) (y := 57) (ci := 0) (f := 12) (by decide) (by decide +kernel) (by decide +kernel) (by exact ev_ob_254) rfl rfl ?_
  intro s4
  refine ev_r_aload_n (pc := 20) (k := 0) (v := .ref 254) trivial (by decide +kernel) (by rfl) ?_
  refine ev_r_iconst (pc := 21) (k := 0) (by decide +kernel) ?_
  refine ev_r_putI (pc := 22) (y := 60) (ci := 0) (f := 13) (by decide) (by decide +kernel) (by decide +kernel) (by exact ev_ob_254) rfl rfl ?_
  intro s5
  exact ev_r_return (pc := 25) (x := ()) trivial (by decide +kernel) (by decide +kernel) rfl
/-- MendBench$Text.at(I)I -/
def jm_151 (Q : Nat) (k : Nat) (a0 : Int) (S : ev_St) : Option ((Int) × ev_St) := if a0 < 0 then (some ((-1), S)) else (ev_b (S.1 k 1) fun x2 => if x2 ≤ a0 then (some ((-1), S)) else (if 160 ≤ a0 then (some ((-1), S)) else (ev_if ((0 : Int) ≤ a0 ∧ a0 < (ev_aln ((k + 1)) : Int)) (ev_b (S.1 ((k + 1)) (Int.toNat a0)) fun x5 => some (x5, S)))))
theorem jt_151 (d : Nat) (hd : 1 ≤ d) (Q : Nat) (k : Nat) (a0 : Int) (hk : ev_isOb k 10 = true) (ha0 : ev_rng a0) (S : ev_St) (x : Int) (S' : ev_St) (hJ : jm_151 Q k a0 S = some (x, S')) : ev_Ref d 151 [.ref k, .int (Int32.ofInt a0)] S (ev_eI x) S' (ev_rng x) := by
  obtain ⟨d, rfl⟩ : ∃ e, d = e + 1 := ⟨d - 1, by omega⟩
  refine ev_ref_of (P := ev_rng) (lv := [(0, .ref k), (1, .int (Int32.ofInt a0))]) (by decide +kernel) (by (try simp only [ev_sum, ev_nv_cat]); first | done | rfl) (by (try simp only [lv_args, ev_nv_cat]); first | done | rfl) ?_ x S' hJ
  unfold jm_151
  refine ev_r_iload_n (pc := 0) (k := 1) (v := Int32.ofInt a0) (by decide +kernel) (by rfl) ?_
  refine ev_r_if (pc := 1) (q := .lt) (o := 27) (t := 28) (c := a0 < 0) (by decide +kernel) (ev_k_lt ha0 ev_rng0) (by decide +kernel) ?_ ?_
  · intro c1
    refine ev_r_iconst (pc := 28) (k := -1) (by decide +kernel) ?_
    exact ev_r_ireturn (pc := 29) (x := (-1)) (v := Int32.ofInt ((-1))) (ty := .int) (by decide) (by decide +kernel) (by decide +kernel) rfl rfl
  · intro c1
    refine ev_r_iload_n (pc := 4) (k := 1) (v := Int32.ofInt a0) (by decide +kernel) (by rfl) ?_
    refine ev_r_aload_n (pc := 5) (k := 0) (v := .ref k) trivial (by decide +kernel) (by rfl) ?_
    refine ev_r_getI (pc := 6) (y := 15) (ci := 10) (f := 1) (fin := 0) (by decide +kernel) (by decide +kernel) (by exact hk) rfl ?_
    intro x2 hx2
    refine ev_r_icmp (pc := 9) (q := .ge) (o := 19) (t := 28) (c := x2 ≤ a0) (by decide +kernel) (ev_k_ge ha0 hx2) (by decide +kernel) ?_ ?_
    · intro c3
      refine ev_r_iconst (pc := 28) (k := -1) (by decide +kernel) ?_
      exact ev_r_ireturn (pc := 29) (x := (-1)) (v := Int32.ofInt ((-1))) (ty := .int) (by decide) (by decide +kernel) (by decide +kernel) rfl rfl
    · intro c3
      refine ev_r_iload_n (pc := 12) (k := 1) (v := Int32.ofInt a0) (by decide +kernel) (by rfl) ?_
      refine ev_r_sipush (pc := 13) (k := 160) (by decide +kernel) (by decide +kernel) ?_
      refine ev_r_icmp (pc := 16) (q := .ge) (o := 12) (t := 28) (c := 160 ≤ a0) (by decide +kernel) (ev_k_ge ha0 (by decide)) (by decide +kernel) ?_ ?_
      · intro c4
        refine ev_r_iconst (pc := 28) (k := -1) (by decide +kernel) ?_
        exact ev_r_ireturn (pc := 29) (x := (-1)) (v := Int32.ofInt ((-1))) (ty := .int) (by decide) (by decide +kernel) (by decide +kernel) rfl rfl
      · intro c4
        refine ev_r_aload_n (pc := 19) (k := 0) (v := .ref k) trivial (by decide +kernel) (by rfl) ?_
        refine ev_r_getC (pc := 20) (y := 11) (ci := 10) (f := 0) (fin := 1) (k' := (k + 1)) (by decide +kernel) (by decide +kernel) (by exact hk) rfl rfl ?_
        refine ev_r_iload_n (pc := 23) (k := 1) (v := Int32.ofInt a0) (by decide +kernel) (by rfl) ?_
        refine ev_r_iald (pc := 24) ha0 (by decide +kernel) (by exact (ev_fo_10_0 hk)) ?_
        intro x5 hx5
        refine ev_r_goto (pc := 25) (o := 4) (t := 29) (by decide +kernel) (by decide +kernel) ?_
        exact ev_r_ireturn (pc := 29) (x := x5) (v := Int32.ofInt x5) (ty := .int) hx5 (by decide +kernel) (by decide +kernel) rfl rfl
/-- MendBench$Text.splice(II[III)V -/
def jm_154 (Q : Nat) (k : Nat) (a0 : Int) (a1 : Int) (a2 : Nat) (a3 : Int) (a4 : Int) (S : ev_St) : Option ((Unit) × ev_St) := ev_ck (a0 + a1) fun x1 => ev_jn (fun (x2 : Int) (x3 : Int) (s12 : ev_St) => if x3 = 0 then (some ((), s12)) else (if a4 < 0 then (some ((), s12)) else (if a3 < 0 then (some ((), s12)) else (ev_ck (a3 + a4) fun x16 => ev_if (a2 ≠ 0) (ev_b (ev_aln ((a2 - 1)) : Int) fun x18 => if x16 ≤ x18 then (ev_ck (a0 + a4) fun x20 => ev_b (s12.1 k 1) fun x21 => ev_ck (x21 - x2) fun x22 => ev_if ((0 : Int) ≤ x2 ∧ (0 : Int) ≤ x20 ∧ (0 : Int) ≤ x22 ∧ x2 + x22 ≤ (ev_aln ((k + 1)) : Int) ∧ x20 + x22 ≤ (ev_aln ((k + 1)) : Int)) (ev_b (ev_cpI s12 ((k + 1)) ((k + 1)) (Int.toNat x2) (Int.toNat x20) (Int.toNat x22)) fun s23 => ev_if (a2 ≠ 0) (ev_if ((0 : Int) ≤ a3 ∧ (0 : Int) ≤ a0 ∧ (0 : Int) ≤ a4 ∧ a3 + a4 ≤ (ev_aln ((a2 - 1)) : Int) ∧ a0 + a4 ≤ (ev_aln ((k + 1)) : Int)) (ev_b (ev_cpI s23 ((a2 - 1)) ((k + 1)) (Int.toNat a3) (Int.toNat a0) (Int.toNat a4)) fun s24 => ev_b (s24.1 k 1) fun x26 => ev_ck (a4 - a1) fun x27 => ev_ck (x26 + x27) fun x28 => ev_b (ev_pI s24 k 1 x28) fun s29 => some ((), s29))))) else (some ((), s12))))))) fun K42 => ev_jn (fun (x30 : Int) (s39 : ev_St) => K42 x30 0 s39) fun K41 => if a0 < 0 then (K41 x1 S) else (if a1 < 0 then (K41 x1 S) else (ev_b (S.1 k 1) fun x42 => if x42 < x1 then (K41 x1 S) else (ev_b (S.1 k 1) fun x44 => ev_ck (x44 - a1) fun x45 => ev_ck (x45 + a4) fun x46 => if 160 < x46 then (K41 x1 S) else (K42 x1 1 S))))
theorem jt_154 (d : Nat) (hd : 1 ≤ d) (Q : Nat) (k : Nat) (a0 : Int) (a1 : Int) (a2 : Nat) (a3 : Int) (a4 : Int) (hk : ev_isOb k 10 = true) (ha0 : ev_rng a0) (ha1 : ev_rng a1) (ha2 : a2 = 0 ∨ ev_isAb (a2 - 1) 1 .int = true) (ha3 : ev_rng a3) (ha4 : ev_rng a4) (S : ev_St) (x : Unit) (S' : ev_St) (hJ : jm_154 Q k a0 a1 a2 a3 a4 S = some (x, S')) : ev_Ref d 154 [.ref k, .int (Int32.ofInt a0), .int (Int32.ofInt a1), ev_nv a2, .int (Int32.ofInt a3), .int (Int32.ofInt a4)] S (ev_eU x) S' (ev_PU x) := by
  obtain ⟨d, rfl⟩ : ∃ e, d = e + 1 := ⟨d - 1, by omega⟩
  refine ev_ref_of (P := ev_PU) (lv := [(0, .ref k), (1, .int (Int32.ofInt a0)), (2, .int (Int32.ofInt a1)), (3, ev_nv a2), (4, .int (Int32.ofInt a3)), (5, .int (Int32.ofInt a4))]) (by decide +kernel) (by (try simp only [ev_sum, ev_nv_cat]); first | done | rfl) (by (try simp only [lv_args, ev_nv_cat]); first | done | rfl) ?_ x S' hJ
  unfold jm_154
  refine ev_r_iload_n (pc := 0) (k := 1) (v := Int32.ofInt a0) (by decide +kernel) (by rfl) ?_
  refine ev_r_iload_n (pc := 1) (k := 2) (v := Int32.ofInt a1) (by decide +kernel) (by rfl) ?_
  refine ev_r_iadd (pc := 2) (by decide +kernel) ?_
  intro x1 hx1
  refine ev_r_istore (pc := 3) (k := 6) (by decide +kernel) (by decide +kernel) rfl ?_
  refine ev_r_iload_n (pc := 5) (k := 1) (v := Int32.ofInt a0) (by decide +kernel) (by exact (ev_l1 (by rfl) (by decide) (by decide))) ?_
  refine ev_r_jn (Q := fun K => ∀ (x2 : Int) (hx2 : ev_rng x2), ∀ (x3 : Int) (hx3 : ev_rng x3), ∀ (s12 : ev_St) (w4 : List (Nat × Value)), ev_lk w4 0 = some (.ref k) → ev_lk w4 1 = some (.int (Int32.ofInt a0)) → ev_lk w4 2 = some (.int (Int32.ofInt a1)) → ev_lk w4 3 = some (ev_nv a2) → ev_lk w4 4 = some (.int (Int32.ofInt a3)) → ev_lk w4 5 = some (.int (Int32.ofInt a4)) → ev_lk w4 6 = some (.int (Int32.ofInt x2)) → ev_w none (ev_Mof 154) d 42 w4 [.int (Int32.ofInt x3)] s12 (K x2 x3 s12) ev_eU ev_PU) ?_ ?_
  · intro x2 hx2 x3 hx3 s12 w4 e5 e6 e7 e8 e9 e10 e11
    refine ev_r_istore (pc := 42) (k := 7) (by decide +kernel) (by decide +kernel) rfl ?_
    refine ev_r_iload (pc := 44) (k := 7) (v := Int32.ofInt x3) (by decide +kernel) (by exact ev_lk_st1_self) ?_
    refine ev_r_if (pc := 46) (q := .eq) (o := 23) (t := 69) (c := x3 = 0) (by decide +kernel) (ev_k_eq hx3 ev_rng0) (by decide +kernel) ?_ ?_
    · intro c13
      exact ev_r_return (pc := 69) (x := ()) trivial (by decide +kernel) (by decide +kernel) rfl
    · intro c13
      refine ev_r_iload (pc := 49) (k := 5) (v := Int32.ofInt a4) (by decide +kernel) (by exact (ev_l1 e10 (by decide) (by decide))) ?_
      refine ev_r_if (pc := 51) (q := .lt) (o := 18) (t := 69) (c := a4 < 0) (by decide +kernel) (ev_k_lt ha4 ev_rng0) (by decide +kernel) ?_ ?_
      · intro c14
        exact ev_r_return (pc := 69) (x := ()) trivial (by decide +kernel) (by decide +kernel) rfl
      · intro c14
        refine ev_r_iload (pc := 54) (k := 4) (v := Int32.ofInt a3) (by decide +kernel) (by exact (ev_l1 e9 (by decide) (by decide))) ?_
        refine ev_r_if (pc := 56) (q := .lt) (o := 13) (t := 69) (c := a3 < 0) (by decide +kernel) (ev_k_lt ha3 ev_rng0) (by decide +kernel) ?_ ?_
        · intro c15
          exact ev_r_return (pc := 69) (x := ()) trivial (by decide +kernel) (by decide +kernel) rfl
        · intro c15
          refine ev_r_iload (pc := 59) (k := 4) (v := Int32.ofInt a3) (by decide +kernel) (by exact (ev_l1 e9 (by decide) (by decide))) ?_
          refine ev_r_iload (pc := 61) (k := 5) (v := Int32.ofInt a4) (by decide +kernel) (by exact (ev_l1 e10 (by decide) (by decide))) ?_
          refine ev_r_iadd (pc := 63) (by decide +kernel) ?_
          intro x16 hx16
          refine ev_r_aload_n (pc := 64) (k := 3) (v := ev_nv a2) (ev_isR_nv _) (by decide +kernel) (by exact (ev_l1 e8 (by decide) (by decide))) ?_
          refine ev_r_chk ?_
          intro c17
          refine ev_r_dr (r := a2) (fun v => [v, .int (Int32.ofInt x16)]) c17 ?_
          refine ev_r_alen (pc := 65) (kd := 1) (ty := .int) (Or.inl rfl) (by decide +kernel) (by exact (ha2.resolve_left c17)) ?_
          intro x18 hx18
          refine ev_r_icmp (pc := 66) (q := .le) (o := 4) (t := 70) (c := x16 ≤ x18) (by decide +kernel) (ev_k_le hx16 hx18) (by decide +kernel) ?_ ?_
          · intro c19
            refine ev_r_aload_n (pc := 70) (k := 0) (v := .ref k) trivial (by decide +kernel) (by exact (ev_l1 e5 (by decide) (by decide))) ?_
            refine ev_r_getC (pc := 71) (y := 11) (ci := 10) (f := 0) (fin := 1) (k' := (k + 1)) (by decide +kernel) (by decide +kernel) (by exact hk) rfl rfl ?_
            refine ev_r_iload (pc := 74) (k := 6) (v := Int32.ofInt x2) (by decide +kernel) (by exact (ev_lk_st1 e11 (by decide) rfl)) ?_
            refine ev_r_aload_n (pc := 76) (k := 0) (v := .ref k) trivial (by decide +kernel) (by exact (ev_l1 e5 (by decide) (by decide))) ?_
            refine ev_r_getC (pc := 77) (y := 11) (ci := 10) (f := 0) (fin := 1) (k' := (k + 1)) (by decide +kernel) (by decide +kernel) (by exact hk) rfl rfl ?_
            refine ev_r_iload_n (pc := 80) (k := 1) (v := Int32.ofInt a0) (by decide +kernel) (by exact (ev_l1 e6 (by decide) (by decide))) ?_
            refine ev_r_iload (pc := 81) (k := 5) (v := Int32.ofInt a4) (by decide +kernel) (by exact (ev_l1 e10 (by decide) (by decide))) ?_
            refine ev_r_iadd (pc := 83) (by decide +kernel) ?_
            intro x20 hx20
            refine ev_r_aload_n (pc := 84) (k := 0) (v := .ref k) trivial (by decide +kernel) (by exact (ev_l1 e5 (by decide) (by decide))) ?_
            refine ev_r_getI (pc := 85) (y := 15) (ci := 10) (f := 1) (fin := 0) (by decide +kernel) (by decide +kernel) (by exact hk) rfl ?_
            intro x21 hx21
            refine ev_r_iload (pc := 88) (k := 6) (v := Int32.ofInt x2) (by decide +kernel) (by exact (ev_lk_st1 e11 (by decide) rfl)) ?_
            refine ev_r_isub (pc := 90) (by decide +kernel) ?_
            intro x22 hx22
            refine ev_r_copyI (pc := 91) (y := 19) ⟨hx2, hx20, hx22⟩ (by decide +kernel) (by decide +kernel) (by (try simp only [ev_sum, ev_nv_cat]); first | done | rfl) (by exact (ev_fo_10_0 hk)) (by exact (ev_fo_10_0 hk)) ?_
            intro s23
            refine ev_r_aload_n (pc := 94) (k := 3) (v := ev_nv a2) (ev_isR_nv _) (by decide +kernel) (by exact (ev_l1 e8 (by decide) (by decide))) ?_
            refine ev_r_iload (pc := 95) (k := 4) (v := Int32.ofInt a3) (by decide +kernel) (by exact (ev_l1 e9 (by decide) (by decide))) ?_
            refine ev_r_aload_n (pc := 97) (k := 0) (v := .ref k) trivial (by decide +kernel) (by exact (ev_l1 e5 (by decide) (by decide))) ?_
            refine ev_r_getC (pc := 98) (y := 11) (ci := 10) (f := 0) (fin := 1) (k' := (k + 1)) (by decide +kernel) (by decide +kernel) (by exact hk) rfl rfl ?_
            refine ev_r_iload_n (pc := 101) (k := 1) (v := Int32.ofInt a0) (by decide +kernel) (by exact (ev_l1 e6 (by decide) (by decide))) ?_
            refine ev_r_iload (pc := 102) (k := 5) (v := Int32.ofInt a4) (by decide +kernel) (by exact (ev_l1 e10 (by decide) (by decide))) ?_
            refine ev_r_chk ?_
            intro c25
            refine ev_r_dr (r := a2) (fun v => [.int (Int32.ofInt a4), .int (Int32.ofInt a0), .ref ((k + 1)), .int (Int32.ofInt a3), v]) c25 ?_
            refine ev_r_copyI (pc := 104) (y := 19) ⟨ha3, ha0, ha4⟩ (by decide +kernel) (by decide +kernel) (by (try simp only [ev_sum, ev_nv_cat]); first | done | rfl) (by exact (ha2.resolve_left c25)) (by exact (ev_fo_10_0 hk)) ?_
            intro s24
            refine ev_r_aload_n (pc := 107) (k := 0) (v := .ref k) trivial (by decide +kernel) (by exact (ev_l1 e5 (by decide) (by decide))) ?_
            refine ev_r_dup (pc := 108) rfl (by decide +kernel) ?_
            refine ev_r_getI (pc := 109) (y := 15) (ci := 10) (f := 1) (fin := 0) (by decide +kernel) (by decide +kernel) (by exact hk) rfl ?_
            intro x26 hx26
            refine ev_r_iload (pc := 112) (k := 5) (v := Int32.ofInt a4) (by decide +kernel) (by exact (ev_l1 e10 (by decide) (by decide))) ?_
            refine ev_r_iload_n (pc := 114) (k := 2) (v := Int32.ofInt a1) (by decide +kernel) (by exact (ev_l1 e7 (by decide) (by decide))) ?_
            refine ev_r_isub (pc := 115) (by decide +kernel) ?_
            intro x27 hx27
            refine ev_r_iadd (pc := 116) (by decide +kernel) ?_
            intro x28 hx28
            refine ev_r_putI (pc := 117) (y := 15) (ci := 10) (f := 1) hx28 (by decide +kernel) (by decide +kernel) (by exact hk) rfl rfl ?_
            intro s29
            exact ev_r_return (pc := 120) (x := ()) trivial (by decide +kernel) (by decide +kernel) rfl
          · intro c19
            exact ev_r_return (pc := 69) (x := ()) trivial (by decide +kernel) (by decide +kernel) rfl
  · intro K42 hK42
    refine ev_r_jn (Q := fun K => ∀ (x30 : Int) (hx30 : ev_rng x30), ∀ (s39 : ev_St) (w31 : List (Nat × Value)), ev_lk w31 0 = some (.ref k) → ev_lk w31 1 = some (.int (Int32.ofInt a0)) → ev_lk w31 2 = some (.int (Int32.ofInt a1)) → ev_lk w31 3 = some (ev_nv a2) → ev_lk w31 4 = some (.int (Int32.ofInt a3)) → ev_lk w31 5 = some (.int (Int32.ofInt a4)) → ev_lk w31 6 = some (.int (Int32.ofInt x30)) → ev_w none (ev_Mof 154) d 41 w31 [] s39 (K x30 s39) ev_eU ev_PU) ?_ ?_
    · intro x30 hx30 s39 w31 e32 e33 e34 e35 e36 e37 e38
      refine ev_r_iconst (pc := 41) (k := 0) (by decide +kernel) ?_
      exact hK42 x30 hx30 0 (by decide) s39 _ (by exact e32) (by exact e33) (by exact e34) (by exact e35) (by exact e36) (by exact e37) (by exact e38)
    · intro K41 hK41
      refine ev_r_if (pc := 6) (q := .lt) (o := 35) (t := 41) (c := a0 < 0) (by decide +kernel) (ev_k_lt ha0 ev_rng0) (by decide +kernel) ?_ ?_
      · intro c40
        exact hK41 x1 hx1 S _ (by exact (ev_l1 (by rfl) (by decide) (by decide))) (by exact (ev_l1 (by rfl) (by decide) (by decide))) (by exact (ev_l1 (by rfl) (by decide) (by decide))) (by exact (ev_l1 (by rfl) (by decide) (by decide))) (by exact (ev_l1 (by rfl) (by decide) (by decide))) (by exact (ev_lk_st1 (by rfl) (by decide) rfl)) (by exact ev_lk_st1_self)
      · intro c40
        refine ev_r_iload_n (pc := 9) (k := 2) (v := Int32.ofInt a1) (by decide +kernel) (by exact (ev_l1 (by rfl) (by decide) (by decide))) ?_
        refine ev_r_if (pc := 10) (q := .lt) (o := 31) (t := 41) (c := a1 < 0) (by decide +kernel) (ev_k_lt ha1 ev_rng0) (by decide +kernel) ?_ ?_
        · intro c41
          exact hK41 x1 hx1 S _ (by exact (ev_l1 (by rfl) (by decide) (by decide))) (by exact (ev_l1 (by rfl) (by decide) (by decide))) (by exact (ev_l1 (by rfl) (by decide) (by decide))) (by exact (ev_l1 (by rfl) (by decide) (by decide))) (by exact (ev_l1 (by rfl) (by decide) (by decide))) (by exact (ev_lk_st1 (by rfl) (by decide) rfl)) (by exact ev_lk_st1_self)
        · intro c41
          refine ev_r_iload (pc := 13) (k := 6) (v := Int32.ofInt x1) (by decide +kernel) (by exact ev_lk_st1_self) ?_
          refine ev_r_aload_n (pc := 15) (k := 0) (v := .ref k) trivial (by decide +kernel) (by exact (ev_l1 (by rfl) (by decide) (by decide))) ?_
          refine ev_r_getI (pc := 16) (y := 15) (ci := 10) (f := 1) (fin := 0) (by decide +kernel) (by decide +kernel) (by exact hk) rfl ?_
          intro x42 hx42
          refine ev_r_icmp (pc := 19) (q := .gt) (o := 22) (t := 41) (c := x42 < x1) (by decide +kernel) (ev_k_gt hx1 hx42) (by decide +kernel) ?_ ?_
          · intro c43
            exact hK41 x1 hx1 S _ (by exact (ev_l1 (by rfl) (by decide) (by decide))) (by exact (ev_l1 (by rfl) (by decide) (by decide))) (by exact (ev_l1 (by rfl) (by decide) (by decide))) (by exact (ev_l1 (by rfl) (by decide) (by decide))) (by exact (ev_l1 (by rfl) (by decide) (by decide))) (by exact (ev_lk_st1 (by rfl) (by decide) rfl)) (by exact ev_lk_st1_self)
          · intro c43
            refine ev_r_aload_n (pc := 22) (k := 0) (v := .ref k) trivial (by decide +kernel) (by exact (ev_l1 (by rfl) (by decide) (by decide))) ?_
            refine ev_r_getI (pc := 23) (y := 15) (ci := 10) (f := 1) (fin := 0) (by decide +kernel) (by decide +kernel) (by exact hk) rfl ?_
            intro x44 hx44
            refine ev_r_iload_n (pc := 26) (k := 2) (v := Int32.ofInt a1) (by decide +kernel) (by exact (ev_l1 (by rfl) (by decide) (by decide))) ?_
            refine ev_r_isub (pc := 27) (by decide +kernel) ?_
            intro x45 hx45
            refine ev_r_iload (pc := 28) (k := 5) (v := Int32.ofInt a4) (by decide +kernel) (by exact (ev_lk_st1 (by rfl) (by decide) rfl)) ?_
            refine ev_r_iadd (pc := 30) (by decide +kernel) ?_
            intro x46 hx46
            refine ev_r_sipush (pc := 31) (k := 160) (by decide +kernel) (by decide +kernel) ?_
            refine ev_r_icmp (pc := 34) (q := .gt) (o := 7) (t := 41) (c := 160 < x46) (by decide +kernel) (ev_k_gt hx46 (by decide)) (by decide +kernel) ?_ ?_
            · intro c47
              exact hK41 x1 hx1 S _ (by exact (ev_l1 (by rfl) (by decide) (by decide))) (by exact (ev_l1 (by rfl) (by decide) (by decide))) (by exact (ev_l1 (by rfl) (by decide) (by decide))) (by exact (ev_l1 (by rfl) (by decide) (by decide))) (by exact (ev_l1 (by rfl) (by decide) (by decide))) (by exact (ev_lk_st1 (by rfl) (by decide) rfl)) (by exact ev_lk_st1_self)
            · intro c47
              refine ev_r_iconst (pc := 37) (k := 1) (by decide +kernel) ?_
              refine ev_r_goto (pc := 38) (o := 4) (t := 42) (by decide +kernel) (by decide +kernel) ?_
              exact hK42 x1 hx1 1 (by decide) S _ (by exact (ev_l1 (by rfl) (by decide) (by decide))) (by exact (ev_l1 (by rfl) (by decide) (by decide))) (by exact (ev_l1 (by rfl) (by decide) (by decide))) (by exact (ev_l1 (by rfl) (by decide) (by decide))) (by exact (ev_l1 (by rfl) (by decide) (by decide))) (by exact (ev_lk_st1 (by rfl) (by decide) rfl)) (by exact ev_lk_st1_self)
def jb_10_3 (Q : Nat) (a0 : Int) (a1 : Int) (a2 : Int) (a3 : Int)  (K3 : Int → ev_St → Option ((Unit) × ev_St)) (x1 : Int) (s9 : ev_St) : Option ((Unit) × ev_St) := ev_b (s9.1 254 4) fun x10 => if x10 ≤ x1 then (some ((), s9)) else (if 12 ≤ x1 then (some ((), s9)) else (ev_if ((0 : Int) ≤ x1 ∧ x1 < (ev_aln 258 : Int)) (ev_b (s9.1 258 (Int.toNat x1)) fun x13 => ev_jn (fun (x14 : Int) (x15 : Int) (s24 : ev_St) => ev_if ((0 : Int) ≤ x1 ∧ x1 < (ev_aln 256 : Int)) (ev_b (s24.1 256 (Int.toNat x1)) fun x25 => ev_jn (fun  (s33 : ev_St) => ev_ck (x1 + 1) fun x34 => K3 x34 s33) fun K126 => if x25 ≠ a0 then (K126  s24) else (if x15 = 0 then (if x14 < a2 then (ev_if ((0 : Int) ≤ x1 ∧ x1 < (ev_aln 257 : Int)) (ev_b (s24.1 257 (Int.toNat x1)) fun x38 => ev_jn (fun (x41 : Int) (x40 : Int) (r39 : Nat) (s49 : ev_St) => ev_if ((0 : Int) ≤ x40 ∧ x40 < (ev_aln r39 : Int)) (ev_b (ev_pI s49 r39 (Int.toNat x40) x41) fun s50 => K126  s50)) fun K125 => if x38 = 0 then (K125 a1 x1 258 s24) else (ev_ck (a1 + a3) fun x52 => K125 x52 x1 258 s24))) else (ev_ck (x14 + a3) fun x53 => ev_ck (a2 - a1) fun x54 => ev_ck (x53 - x54) fun x55 => ev_if ((0 : Int) ≤ x1 ∧ x1 < (ev_aln 258 : Int)) (ev_b (ev_pI s24 258 (Int.toNat x1) x55) fun s56 => K126  s56))) else (K126  s24)))) fun K55 => ev_jn (fun (x57 : Int) (s66 : ev_St) => K55 x57 1 s66) fun K50 => if x13 < a1 then (K50 x13 s9) else (ev_jn (fun  (s76 : ev_St) => K55 x13 0 s76) fun K54 => if x13 ≠ a1 then (K54  s9) else (ev_if ((0 : Int) ≤ x1 ∧ x1 < (ev_aln 257 : Int)) (ev_b (s9.1 257 (Int.toNat x1)) fun x78 => if x78 ≠ 0 then (K54  s9) else (K50 x13 s9)))))))
def jl_10_3 (Q : Nat) (a0 : Int) (a1 : Int) (a2 : Int) (a3 : Int)  : Nat → Int → ev_St → Option ((Unit) × ev_St)
  | 0 => fun _ _ => none
  | q + 1 => jb_10_3 Q a0 a1 a2 a3  (jl_10_3 Q a0 a1 a2 a3  q)
theorem jbt_10_3 (d : Nat) (hd : 1 ≤ d + 1) (Q : Nat) (a0 : Int) (a1 : Int) (a2 : Int) (a3 : Int) (ha0 : ev_rng a0) (ha1 : ev_rng a1) (ha2 : ev_rng a2) (ha3 : ev_rng a3)   (K3 : Int → ev_St → Option ((Unit) × ev_St)) (hK3 : ∀ (x1 : Int) (hx1 : ev_rng x1), ∀ (s9 : ev_St) (w2 : List (Nat × Value)), ev_lk w2 0 = some (.ref 254) → ev_lk w2 1 = some (.int (Int32.ofInt a0)) → ev_lk w2 2 = some (.int (Int32.ofInt a1)) → ev_lk w2 3 = some (.int (Int32.ofInt a2)) → ev_lk w2 4 = some (.int (Int32.ofInt a3)) → ev_lk w2 5 = some (.int (Int32.ofInt x1)) → ev_w none (ev_Mof 10) d 3 w2 [] s9 (K3 x1 s9) ev_eU ev_PU) : ∀ (x1 : Int) (hx1 : ev_rng x1), ∀ (s9 : ev_St) (w2 : List (Nat × Value)), ev_lk w2 0 = some (.ref 254) → ev_lk w2 1 = some (.int (Int32.ofInt a0)) → ev_lk w2 2 = some (.int (Int32.ofInt a1)) → ev_lk w2 3 = some (.int (Int32.ofInt a2)) → ev_lk w2 4 = some (.int (Int32.ofInt a3)) → ev_lk w2 5 = some (.int (Int32.ofInt x1)) → ev_w none (ev_Mof 10) d 3 w2 [] s9 (jb_10_3 Q a0 a1 a2 a3  K3 x1 s9) ev_eU ev_PU := by
  intro x1 hx1 s9 w2 e3 e4 e5 e6 e7 e8
  unfold jb_10_3
  refine ev_r_iload (pc := 3) (k := 5) (v := Int32.ofInt x1) (by decide +kernel) (by exact e8) ?_
  refine ev_r_aload_n (pc := 5) (k := 0) (v := .ref 254) trivial (by decide +kernel) (by exact e3) ?_
  refine ev_r_getI (pc := 6) (y := 46) (ci := 0) (f := 4) (fin := 0) (by decide +kernel) (by decide +kernel) (by exact ev_ob_254) rfl ?_
  intro x10 hx10
  refine ev_r_icmp (pc := 9) (q := .ge) (o := 123) (t := 132) (c := x10 ≤ x1) (by decide +kernel) (ev_k_ge hx1 hx10) (by decide +kernel) ?_ ?_
  · intro c11
    exact ev_r_return (pc := 132) (x := ()) trivial (by decide +kernel) (by decide +kernel) rfl
  · intro c11
    refine ev_r_iload (pc := 12) (k := 5) (v := Int32.ofInt x1) (by decide +kernel) (by exact e8) ?_
    refine ev_r_bipush (pc := 14) (k := 12) (by decide +kernel) (by decide +kernel) ?_
    refine ev_r_icmp (pc := 16) (q := .ge) (o := 116) (t := 132) (c := 12 ≤ x1) (by decide +kernel) (ev_k_ge hx1 (by decide)) (by decide +kernel) ?_ ?_
    · intro c12
      exact ev_r_return (pc := 132) (x := ()) trivial (by decide +kernel) (by decide +kernel) rfl
    · intro c12
      refine ev_r_aload_n (pc := 19) (k := 0) (v := .ref 254) trivial (by decide +kernel) (by exact e3) ?_
      refine ev_r_getC (pc := 20) (y := 25) (ci := 0) (f := 3) (fin := 1) (k' := 258) (by decide +kernel) (by decide +kernel) (by exact ev_ob_254) rfl rfl ?_
      refine ev_r_iload (pc := 23) (k := 5) (v := Int32.ofInt x1) (by decide +kernel) (by exact e8) ?_
      refine ev_r_iald (pc := 25) hx1 (by decide +kernel) (by exact ev_ab_258) ?_
      intro x13 hx13
      refine ev_r_istore (pc := 26) (k := 6) (by decide +kernel) (by decide +kernel) rfl ?_
      refine ev_r_iload (pc := 28) (k := 6) (v := Int32.ofInt x13) (by decide +kernel) (by exact ev_lk_st1_self) ?_
      refine ev_r_iload_n (pc := 30) (k := 2) (v := Int32.ofInt a1) (by decide +kernel) (by exact (ev_l1 e5 (by decide) (by decide))) ?_
      refine ev_r_jn (Q := fun K => ∀ (x14 : Int) (hx14 : ev_rng x14), ∀ (x15 : Int) (hx15 : ev_rng x15), ∀ (s24 : ev_St) (w16 : List (Nat × Value)), ev_lk w16 0 = some (.ref 254) → ev_lk w16 1 = some (.int (Int32.ofInt a0)) → ev_lk w16 2 = some (.int (Int32.ofInt a1)) → ev_lk w16 3 = some (.int (Int32.ofInt a2)) → ev_lk w16 4 = some (.int (Int32.ofInt a3)) → ev_lk w16 5 = some (.int (Int32.ofInt x1)) → ev_lk w16 6 = some (.int (Int32.ofInt x14)) → ev_w none (ev_Mof 10) d 55 w16 [.int (Int32.ofInt x15)] s24 (K x14 x15 s24) ev_eU ev_PU) ?_ ?_
      · intro x14 hx14 x15 hx15 s24 w16 e17 e18 e19 e20 e21 e22 e23
        refine ev_r_istore (pc := 55) (k := 7) (by decide +kernel) (by decide +kernel) rfl ?_
        refine ev_r_aload_n (pc := 57) (k := 0) (v := .ref 254) trivial (by decide +kernel) (by exact (ev_l1 e17 (by decide) (by decide))) ?_
        refine ev_r_getC (pc := 58) (y := 17) (ci := 0) (f := 1) (fin := 1) (k' := 256) (by decide +kernel) (by decide +kernel) (by exact ev_ob_254) rfl rfl ?_
        refine ev_r_iload (pc := 61) (k := 5) (v := Int32.ofInt x1) (by decide +kernel) (by exact (ev_l1 e22 (by decide) (by decide))) ?_
        refine ev_r_iald (pc := 63) hx1 (by decide +kernel) (by exact ev_ab_256) ?_
        intro x25 hx25
        refine ev_r_iload_n (pc := 64) (k := 1) (v := Int32.ofInt a0) (by decide +kernel) (by exact (ev_l1 e18 (by decide) (by decide))) ?_
        refine ev_r_jn (Q := fun K => ∀ (s33 : ev_St) (w26 : List (Nat × Value)), ev_lk w26 0 = some (.ref 254) → ev_lk w26 1 = some (.int (Int32.ofInt a0)) → ev_lk w26 2 = some (.int (Int32.ofInt a1)) → ev_lk w26 3 = some (.int (Int32.ofInt a2)) → ev_lk w26 4 = some (.int (Int32.ofInt a3)) → ev_lk w26 5 = some (.int (Int32.ofInt x1)) → ev_w none (ev_Mof 10) d 126 w26 [] s33 (K  s33) ev_eU ev_PU) ?_ ?_
        · intro  s33 w26 e27 e28 e29 e30 e31 e32
          refine ev_r_iinc (pc := 126) (k := 5) (c := 1) (x := x1) (by decide +kernel) (by decide +kernel) (by exact e32) (fun _ => rfl) ?_
          intro x34 hx34
          refine ev_r_goto (pc := 129) (o := (-126)) (t := 3) (by decide +kernel) (by decide +kernel) ?_
          exact hK3 x34 hx34 s33 _ (by exact (ev_l1 e27 (by decide) (by decide))) (by exact (ev_l1 e28 (by decide) (by decide))) (by exact (ev_l1 e29 (by decide) (by decide))) (by exact (ev_l1 e30 (by decide) (by decide))) (by exact (ev_lk_st1 e31 (by decide) rfl)) (by exact ev_lk_st1_self)
        · intro K126 hK126
          refine ev_r_icmp (pc := 65) (q := .ne) (o := 61) (t := 126) (c := x25 ≠ a0) (by decide +kernel) (ev_k_ne hx25 ha0) (by decide +kernel) ?_ ?_
          · intro c35
            exact hK126  s24 _ (by exact (ev_l1 e17 (by decide) (by decide))) (by exact (ev_l1 e18 (by decide) (by decide))) (by exact (ev_l1 e19 (by decide) (by decide))) (by exact (ev_l1 e20 (by decide) (by decide))) (by exact (ev_l1 e21 (by decide) (by decide))) (by exact (ev_l1 e22 (by decide) (by decide)))
          · intro c35
            refine ev_r_iload (pc := 68) (k := 7) (v := Int32.ofInt x15) (by decide +kernel) (by exact ev_lk_st1_self) ?_
            refine ev_r_if (pc := 70) (q := .eq) (o := 6) (t := 76) (c := x15 = 0) (by decide +kernel) (ev_k_eq hx15 ev_rng0) (by decide +kernel) ?_ ?_
            · intro c36
              refine ev_r_iload (pc := 76) (k := 6) (v := Int32.ofInt x14) (by decide +kernel) (by exact (ev_lk_st1 e23 (by decide) rfl)) ?_
              refine ev_r_iload_n (pc := 78) (k := 3) (v := Int32.ofInt a2) (by decide +kernel) (by exact (ev_l1 e20 (by decide) (by decide))) ?_
              refine ev_r_icmp (pc := 79) (q := .lt) (o := 22) (t := 101) (c := x14 < a2) (by decide +kernel) (ev_k_lt hx14 ha2) (by decide +kernel) ?_ ?_
              · intro c37
                refine ev_r_aload_n (pc := 101) (k := 0) (v := .ref 254) trivial (by decide +kernel) (by exact (ev_l1 e17 (by decide) (by decide))) ?_
                refine ev_r_getC (pc := 102) (y := 25) (ci := 0) (f := 3) (fin := 1) (k' := 258) (by decide +kernel) (by decide +kernel) (by exact ev_ob_254) rfl rfl ?_
                refine ev_r_iload (pc := 105) (k := 5) (v := Int32.ofInt x1) (by decide +kernel) (by exact (ev_l1 e22 (by decide) (by decide))) ?_
                refine ev_r_aload_n (pc := 107) (k := 0) (v := .ref 254) trivial (by decide +kernel) (by exact (ev_l1 e17 (by decide) (by decide))) ?_
                refine ev_r_getC (pc := 108) (y := 21) (ci := 0) (f := 2) (fin := 1) (k' := 257) (by decide +kernel) (by decide +kernel) (by exact ev_ob_254) rfl rfl ?_
                refine ev_r_iload (pc := 111) (k := 5) (v := Int32.ofInt x1) (by decide +kernel) (by exact (ev_l1 e22 (by decide) (by decide))) ?_
                refine ev_r_bald (pc := 113) (ty := .boolean) (Or.inr rfl) hx1 (by decide +kernel) (by exact ev_ab_257) ?_
                intro x38 hx38
                refine ev_r_jn (Q := fun K => ∀ (x41 : Int) (hx41 : ev_rng x41), ∀ (x40 : Int) (hx40 : ev_rng x40), ∀ (r39 : Nat) (hr39 : ev_isAb r39 1 .int = true), ∀ (s49 : ev_St) (w42 : List (Nat × Value)), ev_lk w42 0 = some (.ref 254) → ev_lk w42 1 = some (.int (Int32.ofInt a0)) → ev_lk w42 2 = some (.int (Int32.ofInt a1)) → ev_lk w42 3 = some (.int (Int32.ofInt a2)) → ev_lk w42 4 = some (.int (Int32.ofInt a3)) → ev_lk w42 5 = some (.int (Int32.ofInt x1)) → ev_w none (ev_Mof 10) d 125 w42 [.int (Int32.ofInt x41), .int (Int32.ofInt x40), .ref r39] s49 (K x41 x40 r39 s49) ev_eU ev_PU) ?_ ?_
                · intro x41 hx41 x40 hx40 r39 hr39 s49 w42 e43 e44 e45 e46 e47 e48
                  refine ev_r_iast (pc := 125) hx41 hx40 (by decide +kernel) (by exact hr39) ?_
                  intro s50
                  exact hK126  s50 _ (by exact e43) (by exact e44) (by exact e45) (by exact e46) (by exact e47) (by exact e48)
                · intro K125 hK125
                  refine ev_r_if (pc := 114) (q := .eq) (o := 10) (t := 124) (c := x38 = 0) (by decide +kernel) (ev_k_eq hx38 ev_rng0) (by decide +kernel) ?_ ?_
                  · intro c51
                    refine ev_r_iload_n (pc := 124) (k := 2) (v := Int32.ofInt a1) (by decide +kernel) (by exact (ev_l1 e19 (by decide) (by decide))) ?_
                    exact hK125 a1 ha1 x1 hx1 258 ev_ab_258 s24 _ (by exact (ev_l1 e17 (by decide) (by decide))) (by exact (ev_l1 e18 (by decide) (by decide))) (by exact (ev_l1 e19 (by decide) (by decide))) (by exact (ev_l1 e20 (by decide) (by decide))) (by exact (ev_l1 e21 (by decide) (by decide))) (by exact (ev_l1 e22 (by decide) (by decide)))
                  · intro c51
                    refine ev_r_iload_n (pc := 117) (k := 2) (v := Int32.ofInt a1) (by decide +kernel) (by exact (ev_l1 e19 (by decide) (by decide))) ?_
                    refine ev_r_iload (pc := 118) (k := 4) (v := Int32.ofInt a3) (by decide +kernel) (by exact (ev_l1 e21 (by decide) (by decide))) ?_
                    refine ev_r_iadd (pc := 120) (by decide +kernel) ?_
                    intro x52 hx52
                    refine ev_r_goto (pc := 121) (o := 4) (t := 125) (by decide +kernel) (by decide +kernel) ?_
                    exact hK125 x52 hx52 x1 hx1 258 ev_ab_258 s24 _ (by exact (ev_l1 e17 (by decide) (by decide))) (by exact (ev_l1 e18 (by decide) (by decide))) (by exact (ev_l1 e19 (by decide) (by decide))) (by exact (ev_l1 e20 (by decide) (by decide))) (by exact (ev_l1 e21 (by decide) (by decide))) (by exact (ev_l1 e22 (by decide) (by decide)))
              · intro c37
                refine ev_r_aload_n (pc := 82) (k := 0) (v := .ref 254) trivial (by decide +kernel) (by exact (ev_l1 e17 (by decide) (by decide))) ?_
                refine ev_r_getC (pc := 83) (y := 25) (ci := 0) (f := 3) (fin := 1) (k' := 258) (by decide +kernel) (by decide +kernel) (by exact ev_ob_254) rfl rfl ?_
                refine ev_r_iload (pc := 86) (k := 5) (v := Int32.ofInt x1) (by decide +kernel) (by exact (ev_l1 e22 (by decide) (by decide))) ?_
                refine ev_r_iload (pc := 88) (k := 6) (v := Int32.ofInt x14) (by decide +kernel) (by exact (ev_lk_st1 e23 (by decide) rfl)) ?_
                refine ev_r_iload (pc := 90) (k := 4) (v := Int32.ofInt a3) (by decide +kernel) (by exact (ev_l1 e21 (by decide) (by decide))) ?_
                refine ev_r_iadd (pc := 92) (by decide +kernel) ?_
                intro x53 hx53
                refine ev_r_iload_n (pc := 93) (k := 3) (v := Int32.ofInt a2) (by decide +kernel) (by exact (ev_l1 e20 (by decide) (by decide))) ?_
                refine ev_r_iload_n (pc := 94) (k := 2) (v := Int32.ofInt a1) (by decide +kernel) (by exact (ev_l1 e19 (by decide) (by decide))) ?_
                refine ev_r_isub (pc := 95) (by decide +kernel) ?_
                intro x54 hx54
                refine ev_r_isub (pc := 96) (by decide +kernel) ?_
                intro x55 hx55
                refine ev_r_iast (pc := 97) hx55 hx1 (by decide +kernel) (by exact ev_ab_258) ?_
                intro s56
                refine ev_r_goto (pc := 98) (o := 28) (t := 126) (by decide +kernel) (by decide +kernel) ?_
                exact hK126  s56 _ (by exact (ev_l1 e17 (by decide) (by decide))) (by exact (ev_l1 e18 (by decide) (by decide))) (by exact (ev_l1 e19 (by decide) (by decide))) (by exact (ev_l1 e20 (by decide) (by decide))) (by exact (ev_l1 e21 (by decide) (by decide))) (by exact (ev_l1 e22 (by decide) (by decide)))
            · intro c36
              refine ev_r_goto (pc := 73) (o := 53) (t := 126) (by decide +kernel) (by decide +kernel) ?_
              exact hK126  s24 _ (by exact (ev_l1 e17 (by decide) (by decide))) (by exact (ev_l1 e18 (by decide) (by decide))) (by exact (ev_l1 e19 (by decide) (by decide))) (by exact (ev_l1 e20 (by decide) (by decide))) (by exact (ev_l1 e21 (by decide) (by decide))) (by exact (ev_l1 e22 (by decide) (by decide)))
      · intro K55 hK55
        refine ev_r_jn (Q := fun K => ∀ (x57 : Int) (hx57 : ev_rng x57), ∀ (s66 : ev_St) (w58 : List (Nat × Value)), ev_lk w58 0 = some (.ref 254) → ev_lk w58 1 = some (.int (Int32.ofInt a0)) → ev_lk w58 2 = some (.int (Int32.ofInt a1)) → ev_lk w58 3 = some (.int (Int32.ofInt a2)) → ev_lk w58 4 = some (.int (Int32.ofInt a3)) → ev_lk w58 5 = some (.int (Int32.ofInt x1)) → ev_lk w58 6 = some (.int (Int32.ofInt x57)) → ev_w none (ev_Mof 10) d 50 w58 [] s66 (K x57 s66) ev_eU ev_PU) ?_ ?_
        · intro x57 hx57 s66 w58 e59 e60 e61 e62 e63 e64 e65
          refine ev_r_iconst (pc := 50) (k := 1) (by decide +kernel) ?_
          refine ev_r_goto (pc := 51) (o := 4) (t := 55) (by decide +kernel) (by decide +kernel) ?_
          exact hK55 x57 hx57 1 (by decide) s66 _ (by exact e59) (by exact e60) (by exact e61) (by exact e62) (by exact e63) (by exact e64) (by exact e65)
        · intro K50 hK50
          refine ev_r_icmp (pc := 31) (q := .lt) (o := 19) (t := 50) (c := x13 < a1) (by decide +kernel) (ev_k_lt hx13 ha1) (by decide +kernel) ?_ ?_
          · intro c67
            exact hK50 x13 hx13 s9 _ (by exact (ev_l1 e3 (by decide) (by decide))) (by exact (ev_l1 e4 (by decide) (by decide))) (by exact (ev_l1 e5 (by decide) (by decide))) (by exact (ev_l1 e6 (by decide) (by decide))) (by exact (ev_l1 e7 (by decide) (by decide))) (by exact (ev_lk_st1 e8 (by decide) rfl)) (by exact ev_lk_st1_self)
          · intro c67
            refine ev_r_iload (pc := 34) (k := 6) (v := Int32.ofInt x13) (by decide +kernel) (by exact ev_lk_st1_self) ?_
            refine ev_r_iload_n (pc := 36) (k := 2) (v := Int32.ofInt a1) (by decide +kernel) (by exact (ev_l1 e5 (by decide) (by decide))) ?_
            refine ev_r_jn (Q := fun K => ∀ (s76 : ev_St) (w68 : List (Nat × Value)), ev_lk w68 0 = some (.ref 254) → ev_lk w68 1 = some (.int (Int32.ofInt a0)) → ev_lk w68 2 = some (.int (Int32.ofInt a1)) → ev_lk w68 3 = some (.int (Int32.ofInt a2)) → ev_lk w68 4 = some (.int (Int32.ofInt a3)) → ev_lk w68 5 = some (.int (Int32.ofInt x1)) → ev_lk w68 6 = some (.int (Int32.ofInt x13)) → ev_w none (ev_Mof 10) d 54 w68 [] s76 (K  s76) ev_eU ev_PU) ?_ ?_
            · intro  s76 w68 e69 e70 e71 e72 e73 e74 e75
              refine ev_r_iconst (pc := 54) (k := 0) (by decide +kernel) ?_
              exact hK55 x13 hx13 0 (by decide) s76 _ (by exact e69) (by exact e70) (by exact e71) (by exact e72) (by exact e73) (by exact e74) (by exact e75)
            · intro K54 hK54
              refine ev_r_icmp (pc := 37) (q := .ne) (o := 17) (t := 54) (c := x13 ≠ a1) (by decide +kernel) (ev_k_ne hx13 ha1) (by decide +kernel) ?_ ?_
              · intro c77
                exact hK54  s9 _ (by exact (ev_l1 e3 (by decide) (by decide))) (by exact (ev_l1 e4 (by decide) (by decide))) (by exact (ev_l1 e5 (by decide) (by decide))) (by exact (ev_l1 e6 (by decide) (by decide))) (by exact (ev_l1 e7 (by decide) (by decide))) (by exact (ev_lk_st1 e8 (by decide) rfl)) (by exact ev_lk_st1_self)
              · intro c77
                refine ev_r_aload_n (pc := 40) (k := 0) (v := .ref 254) trivial (by decide +kernel) (by exact (ev_l1 e3 (by decide) (by decide))) ?_
                refine ev_r_getC (pc := 41) (y := 21) (ci := 0) (f := 2) (fin := 1) (k' := 257) (by decide +kernel) (by decide +kernel) (by exact ev_ob_254) rfl rfl ?_
                refine ev_r_iload (pc := 44) (k := 5) (v := Int32.ofInt x1) (by decide +kernel) (by exact (ev_lk_st1 e8 (by decide) rfl)) ?_
                refine ev_r_bald (pc := 46) (ty := .boolean) (Or.inr rfl) hx1 (by decide +kernel) (by exact ev_ab_257) ?_
                intro x78 hx78
                refine ev_r_if (pc := 47) (q := .ne) (o := 7) (t := 54) (c := x78 ≠ 0) (by decide +kernel) (ev_k_ne hx78 ev_rng0) (by decide +kernel) ?_ ?_
                · intro c79
                  exact hK54  s9 _ (by exact (ev_l1 e3 (by decide) (by decide))) (by exact (ev_l1 e4 (by decide) (by decide))) (by exact (ev_l1 e5 (by decide) (by decide))) (by exact (ev_l1 e6 (by decide) (by decide))) (by exact (ev_l1 e7 (by decide) (by decide))) (by exact (ev_lk_st1 e8 (by decide) rfl)) (by exact ev_lk_st1_self)
                · intro c79
                  exact hK50 x13 hx13 s9 _ (by exact (ev_l1 e3 (by decide) (by decide))) (by exact (ev_l1 e4 (by decide) (by decide))) (by exact (ev_l1 e5 (by decide) (by decide))) (by exact (ev_l1 e6 (by decide) (by decide))) (by exact (ev_l1 e7 (by decide) (by decide))) (by exact (ev_lk_st1 e8 (by decide) rfl)) (by exact ev_lk_st1_self)
theorem jlt_10_3 (d : Nat) (hd : 1 ≤ d + 1) (Q : Nat) (a0 : Int) (a1 : Int) (a2 : Int) (a3 : Int) (ha0 : ev_rng a0) (ha1 : ev_rng a1) (ha2 : ev_rng a2) (ha3 : ev_rng a3)   : ∀ q : Nat, ∀ (x1 : Int) (hx1 : ev_rng x1), ∀ (s9 : ev_St) (w2 : List (Nat × Value)), ev_lk w2 0 = some (.ref 254) → ev_lk w2 1 = some (.int (Int32.ofInt a0)) → ev_lk w2 2 = some (.int (Int32.ofInt a1)) → ev_lk w2 3 = some (.int (Int32.ofInt a2)) → ev_lk w2 4 = some (.int (Int32.ofInt a3)) → ev_lk w2 5 = some (.int (Int32.ofInt x1)) → ev_w none (ev_Mof 10) d 3 w2 [] s9 (jl_10_3 Q a0 a1 a2 a3  q x1 s9) ev_eU ev_PU := by
  intro q
  induction q with
  | zero =>
    intro x1 hx1 s9 w2 e3 e4 e5 e6 e7 e8
    exact ev_w_none
  | succ q ih => exact jbt_10_3 d hd Q a0 a1 a2 a3 ha0 ha1 ha2 ha3   _ ih
/-- MendBench$Buffers.moveMarks(IIII)V -/
def jm_10 (Q : Nat) (a0 : Int) (a1 : Int) (a2 : Int) (a3 : Int) (S : ev_St) : Option ((Unit) × ev_St) := jl_10_3 Q a0 a1 a2 a3  Q 0 S
theorem jt_10 (d : Nat) (hd : 1 ≤ d) (Q : Nat) (a0 : Int) (a1 : Int) (a2 : Int) (a3 : Int) (ha0 : ev_rng a0) (ha1 : ev_rng a1) (ha2 : ev_rng a2) (ha3 : ev_rng a3) (S : ev_St) (x : Unit) (S' : ev_St) (hJ : jm_10 Q a0 a1 a2 a3 S = some (x, S')) : ev_Ref d 10 [.ref 254, .int (Int32.ofInt a0), .int (Int32.ofInt a1), .int (Int32.ofInt a2), .int (Int32.ofInt a3)] S (ev_eU x) S' (ev_PU x) := by
  obtain ⟨d, rfl⟩ : ∃ e, d = e + 1 := ⟨d - 1, by omega⟩
  refine ev_ref_of (P := ev_PU) (lv := [(0, .ref 254), (1, .int (Int32.ofInt a0)), (2, .int (Int32.ofInt a1)), (3, .int (Int32.ofInt a2)), (4, .int (Int32.ofInt a3))]) (by decide +kernel) (by (try simp only [ev_sum, ev_nv_cat]); first | done | rfl) (by (try simp only [lv_args, ev_nv_cat]); first | done | rfl) ?_ x S' hJ
  unfold jm_10
  refine ev_r_iconst (pc := 0) (k := 0) (by decide +kernel) ?_
  refine ev_r_istore (pc := 1) (k := 5) (by decide +kernel) (by decide +kernel) rfl ?_
  exact jlt_10_3 d hd Q a0 a1 a2 a3 ha0 ha1 ha2 ha3   Q 0 (by decide) S _ (by exact (ev_l1 (by rfl) (by decide) (by decide))) (by exact (ev_l1 (by rfl) (by decide) (by decide))) (by exact (ev_l1 (by rfl) (by decide) (by decide))) (by exact (ev_l1 (by rfl) (by decide) (by decide))) (by exact (ev_lk_st1 (by rfl) (by decide) rfl)) (by exact ev_lk_st1_self)
/-- MendBench$ClassReader.beginOperand()V -/
def jm_20 (Q : Nat)  (S : ev_St) : Option ((Unit) × ev_St) := ev_b (S.1 6 7) fun x1 => if x1 < 0 then (some ((), S)) else (ev_b (S.1 6 7) fun x3 => if 128 ≤ x3 then (some ((), S)) else (ev_b (S.1 6 7) fun x5 => ev_if ((0 : Int) ≤ x5 ∧ x5 < (ev_aln 9 : Int)) (ev_b (ev_pL S 9 (Int.toNat x5) ((Int64.ofNat ((0 : Fin 2) : Nat)))) fun s6 => ev_b (s6.1 6 7) fun x7 => ev_if ((0 : Int) ≤ x7 ∧ x7 < (ev_aln 10 : Int)) (ev_b (ev_pL s6 10 (Int.toNat x7) ((Int64.ofNat ((0 : Fin 2) : Nat)))) fun s8 => ev_b (s8.1 6 7) fun x9 => ev_if ((0 : Int) ≤ x9 ∧ x9 < (ev_aln 11 : Int)) (ev_b (ev_pI s8 11 (Int.toNat x9) 0) fun s10 => some ((), s10))))))
theorem jt_20 (d : Nat) (hd : 1 ≤ d) (Q : Nat)   (S : ev_St) (x : Unit) (S' : ev_St) (hJ : jm_20 Q  S = some (x, S')) : ev_Ref d 20 [.ref 6] S (ev_eU x) S' (ev_PU x) := by
  obtain ⟨d, rfl⟩ : ∃ e, d = e + 1 := ⟨d - 1, by omega⟩
  refine ev_ref_of (P := ev_PU) (lv := [(0, .ref 6)]) (by decide +kernel) (by (try simp only [ev_sum, ev_nv_cat]); first | done | rfl) (by (try simp only [lv_args, ev_nv_cat]); first | done | rfl) ?_ x S' hJ
  unfold jm_20
  refine ev_r_aload_n (pc := 0) (k := 0) (v := .ref 6) trivial (by decide +kernel) (by rfl) ?_
  refine ev_r_getI (pc := 1) (y := 47) (ci := 1) (f := 7) (fin := 0) (by decide +kernel) (by decide +kernel) (by exact ev_ob_6) rfl ?_
  intro x1 hx1
  refine ev_r_if (pc := 4) (q := .lt) (o := 43) (t := 47) (c := x1 < 0) (by decide +kernel) (ev_k_lt hx1 ev_rng0) (by decide +kernel) ?_ ?_
  · intro c2
    exact ev_r_return (pc := 47) (x := ()) trivial (by decide +kernel) (by decide +kernel) rfl
  · intro c2
    refine ev_r_aload_n (pc := 7) (k := 0) (v := .ref 6) trivial (by decide +kernel) (by rfl) ?_
    refine ev_r_getI (pc := 8) (y := 47) (ci := 1) (f := 7) (fin := 0) (by decide +kernel) (by decide +kernel) (by exact ev_ob_6) rfl ?_
    intro x3 hx3
    refine ev_r_sipush (pc := 11) (k := 128) (by decide +kernel) (by decide +kernel) ?_
    refine ev_r_icmp (pc := 14) (q := .ge) (o := 33) (t := 47) (c := 128 ≤ x3) (by decide +kernel) (ev_k_ge hx3 (by decide)) (by decide +kernel) ?_ ?_
    · intro c4
      exact ev_r_return (pc := 47) (x := ()) trivial (by decide +kernel) (by decide +kernel) rfl
    · intro c4
      refine ev_r_aload_n (pc := 17) (k := 0) (v := .ref 6) trivial (by decide +kernel) (by rfl) ?_
      refine ev_r_getC (pc := 18) (y := 18) (ci := 1) (f := 2) (fin := 1) (k' := 9) (by decide +kernel) (by decide +kernel) (by exact ev_ob_6) rfl rfl ?_
      refine ev_r_aload_n (pc := 21) (k := 0) (v := .ref 6) trivial (by decide +kernel) (by rfl) ?_
      refine ev_r_getI (pc := 22) (y := 47) (ci := 1) (f := 7) (fin := 0) (by decide +kernel) (by decide +kernel) (by exact ev_ob_6) rfl ?_
      intro x5 hx5
      refine ev_r_lconst (pc := 25) (c := 0) (by decide +kernel) ?_
      refine ev_r_last (pc := 26) hx5 (by decide +kernel) (by exact ev_ab_9) ?_
      intro s6
      refine ev_r_aload_n (pc := 27) (k := 0) (v := .ref 6) trivial (by decide +kernel) (by rfl) ?_
      refine ev_r_getC (pc := 28) (y := 21) (ci := 1) (f := 3) (fin := 1) (k' := 10) (by decide +kernel) (by decide +kernel) (by exact ev_ob_6) rfl rfl ?_
      refine ev_r_aload_n (pc := 31) (k := 0) (v := .ref 6) trivial (by decide +kernel) (by rfl) ?_
      refine ev_r_getI (pc := 32) (y := 47) (ci := 1) (f := 7) (fin := 0) (by decide +kernel) (by decide +kernel) (by exact ev_ob_6) rfl ?_
      intro x7 hx7
      refine ev_r_lconst (pc := 35) (c := 0) (by decide +kernel) ?_
      refine ev_r_last (pc := 36) hx7 (by decide +kernel) (by exact ev_ab_10) ?_
      intro s8
      refine ev_r_aload_n (pc := 37) (k := 0) (v := .ref 6) trivial (by decide +kernel) (by rfl) ?_
      refine ev_r_getC (pc := 38) (y := 24) (ci := 1) (f := 4) (fin := 1) (k' := 11) (by decide +kernel) (by decide +kernel) (by exact ev_ob_6) rfl rfl ?_
      refine ev_r_aload_n (pc := 41) (k := 0) (v := .ref 6) trivial (by decide +kernel) (by rfl) ?_
      refine ev_r_getI (pc := 42) (y := 47) (ci := 1) (f := 7) (fin := 0) (by decide +kernel) (by decide +kernel) (by exact ev_ob_6) rfl ?_
      intro x9 hx9
      refine ev_r_iconst (pc := 45) (k := 0) (by decide +kernel) ?_
      refine ev_r_bast (pc := 46) (ty := .boolean) (Or.inr rfl) (ev_nar_bl (by decide : ev_bl 0)) (by decide) hx9 (by decide +kernel) (by exact ev_ab_11) ?_
      intro s10
      exact ev_r_return (pc := 47) (x := ()) trivial (by decide +kernel) (by decide +kernel) rfl
/-- MendBench$ClassReader.begin()Z -/
def jm_19 (Q : Nat)  (S : ev_St) : Option ((Int) × ev_St) := ev_b (S.1 6 7) fun x1 => ev_ck (x1 + 1) fun x2 => if x2 < 0 then (some (0, S)) else (ev_b (S.1 6 7) fun x4 => ev_ck (x4 + 1) fun x5 => if x5 < 128 then (ev_b (S.1 6 7) fun x7 => ev_ck (x7 + 1) fun x8 => ev_b (ev_pI S 6 7 x8) fun s9 => ev_b (s9.1 6 7) fun x10 => ev_if ((0 : Int) ≤ x10 ∧ x10 < (ev_aln 7 : Int)) (ev_b (ev_pL s9 7 (Int.toNat x10) ((Int64.ofNat ((0 : Fin 2) : Nat)))) fun s11 => ev_b (s11.1 6 7) fun x12 => ev_if ((0 : Int) ≤ x12 ∧ x12 < (ev_aln 8 : Int)) (ev_b (ev_pL s11 8 (Int.toNat x12) ((Int64.ofNat ((0 : Fin 2) : Nat)))) fun s13 => ev_b (s13.1 6 7) fun x14 => ev_if ((0 : Int) ≤ x14 ∧ x14 < (ev_aln 13 : Int)) (ev_b (ev_pI s13 13 (Int.toNat x14) 0) fun s15 => ev_bd (jm_20 Q  s15) fun _ s16 => ev_b (s16.1 6 7) fun x17 => ev_b (s16.2.2.1 6 8) fun r18 => ev_b (s16.1 6 9) fun x19 => ev_if (r18 ≠ 0) (ev_bd (jm_151 Q ((r18 - 1)) x19 s16) fun x22 s21 => ev_jn (fun (x25 : Int) (x24 : Int) (r23 : Nat) (s28 : ev_St) => ev_if (ev_bl x25) (ev_if ((0 : Int) ≤ x24 ∧ x24 < (ev_aln r23 : Int)) (ev_b (ev_pI s28 r23 (Int.toNat x24) x25) fun s29 => ev_b (s29.1 6 7) fun x31 => ev_if ((0 : Int) ≤ x31 ∧ x31 < (ev_aln 12 : Int)) (ev_b (s29.1 12 (Int.toNat x31)) fun x32 => if x32 = 0 then (some (1, s29)) else (ev_b (s29.1 6 9) fun x34 => ev_ck (x34 + 1) fun x35 => ev_b (ev_pI s29 6 9 x35) fun s36 => some (1, s36)))))) fun K96 => if x22 ≠ 94 then (K96 0 x17 12 s21) else (K96 1 x17 12 s21)))))) else (some (0, S)))
theorem jt_19 (d : Nat) (hd : 2 ≤ d) (Q : Nat)   (S : ev_St) (x : Int) (S' : ev_St) (hJ : jm_19 Q  S = some (x, S')) : ev_Ref d 19 [.ref 6] S (ev_eI x) S' (ev_bl x) := by
  obtain ⟨d, rfl⟩ : ∃ e, d = e + 1 := ⟨d - 1, by omega⟩
  refine ev_ref_of (P := ev_bl) (lv := [(0, .ref 6)]) (by decide +kernel) (by (try simp only [ev_sum, ev_nv_cat]); first | done | rfl) (by (try simp only [lv_args, ev_nv_cat]); first | done | rfl) ?_ x S' hJ
  unfold jm_19
  refine ev_r_aload_n (pc := 0) (k := 0) (v := .ref 6) trivial (by decide +kernel) (by rfl) ?_
  refine ev_r_getI (pc := 1) (y := 47) (ci := 1) (f := 7) (fin := 0) (by decide +kernel) (by decide +kernel) (by exact ev_ob_6) rfl ?_
  intro x1 hx1
  refine ev_r_iconst (pc := 4) (k := 1) (by decide +kernel) ?_
  refine ev_r_iadd (pc := 5) (by decide +kernel) ?_
  intro x2 hx2
  refine ev_r_if (pc := 6) (q := .lt) (o := 15) (t := 21) (c := x2 < 0) (by decide +kernel) (ev_k_lt hx2 ev_rng0) (by decide +kernel) ?_ ?_
  · intro c3
    refine ev_r_iconst (pc := 21) (k := 0) (by decide +kernel) ?_
    exact ev_r_ireturn (pc := 22) (x := 0) (v := Int32.ofInt 0) (ty := .boolean) (by decide : ev_bl 0) (by decide +kernel) (by decide +kernel) (ev_ret_bl (by decide : ev_bl 0)) rfl
  · intro c3
    refine ev_r_aload_n (pc := 9) (k := 0) (v := .ref 6) trivial (by decide +kernel) (by rfl) ?_
    refine ev_r_getI (pc := 10) (y := 47) (ci := 1) (f := 7) (fin := 0) (by decide +kernel) (by decide +kernel) (by exact ev_ob_6) rfl ?_
    intro x4 hx4
    refine ev_r_iconst (pc := 13) (k := 1) (by decide +kernel) ?_
    refine ev_r_iadd (pc := 14) (by decide +kernel) ?_
    intro x5 hx5
    refine ev_r_sipush (pc := 15) (k := 128) (by decide +kernel) (by decide +kernel) ?_
    refine ev_r_icmp (pc := 18) (q := .lt) (o := 5) (t := 23) (c := x5 < 128) (by decide +kernel) (ev_k_lt hx5 (by decide)) (by decide +kernel) ?_ ?_
    · intro c6
      refine ev_r_aload_n (pc := 23) (k := 0) (v := .ref 6) trivial (by decide +kernel) (by rfl) ?_
      refine ev_r_dup (pc := 24) rfl (by decide +kernel) ?_
      refine ev_r_getI (pc := 25) (y := 47) (ci := 1) (f := 7) (fin := 0) (by decide +kernel) (by decide +kernel) (by exact ev_ob_6) rfl ?_
      intro x7 hx7
      refine ev_r_iconst (pc := 28) (k := 1) (by decide +kernel) ?_
      refine ev_r_iadd (pc := 29) (by decide +kernel) ?_
      intro x8 hx8
      refine ev_r_putI (pc := 30) (y := 47) (ci := 1) (f := 7) hx8 (by decide +kernel) (by decide +kernel) (by exact ev_ob_6) rfl rfl ?_
      intro s9
      refine ev_r_aload_n (pc := 33) (k := 0) (v := .ref 6) trivial (by decide +kernel) (by rfl) ?_
      refine ev_r_getC (pc := 34) (y := 11) (ci := 1) (f := 0) (fin := 1) (k' := 7) (by decide +kernel) (by decide +kernel) (by exact ev_ob_6) rfl rfl ?_
      refine ev_r_aload_n (pc := 37) (k := 0) (v := .ref 6) trivial (by decide +kernel) (by rfl) ?_
      refine ev_r_getI (pc := 38) (y := 47) (ci := 1) (f := 7) (fin := 0) (by decide +kernel) (by decide +kernel) (by exact ev_ob_6) rfl ?_
      intro x10 hx10
      refine ev_r_lconst (pc := 41) (c := 0) (by decide +kernel) ?_
      refine ev_r_last (pc := 42) hx10 (by decide +kernel) (by exact ev_ab_7) ?_
      intro s11
      refine ev_r_aload_n (pc := 43) (k := 0) (v := .ref 6) trivial (by decide +kernel) (by rfl) ?_
      refine ev_r_getC (pc := 44) (y := 15) (ci := 1) (f := 1) (fin := 1) (k' := 8) (by decide +kernel) (by decide +kernel) (by exact ev_ob_6) rfl rfl ?_
      refine ev_r_aload_n (pc := 47) (k := 0) (v := .ref 6) trivial (by decide +kernel) (by rfl) ?_
      refine ev_r_getI (pc := 48) (y := 47) (ci := 1) (f := 7) (fin := 0) (by decide +kernel) (by decide +kernel) (by exact ev_ob_6) rfl ?_
      intro x12 hx12
      refine ev_r_lconst (pc := 51) (c := 0) (by decide +kernel) ?_
      refine ev_r_last (pc := 52) hx12 (by decide +kernel) (by exact ev_ab_8) ?_
      intro s13
      refine ev_r_aload_n (pc := 53) (k := 0) (v := .ref 6) trivial (by decide +kernel) (by rfl) ?_
      refine ev_r_getC (pc := 54) (y := 31) (ci := 1) (f := 6) (fin := 1) (k' := 13) (by decide +kernel) (by decide +kernel) (by exact ev_ob_6) rfl rfl ?_
      refine ev_r_aload_n (pc := 57) (k := 0) (v := .ref 6) trivial (by decide +kernel) (by rfl) ?_
      refine ev_r_getI (pc := 58) (y := 47) (ci := 1) (f := 7) (fin := 0) (by decide +kernel) (by decide +kernel) (by exact ev_ob_6) rfl ?_
      intro x14 hx14
      refine ev_r_iconst (pc := 61) (k := 0) (by decide +kernel) ?_
      refine ev_r_iast (pc := 62) (by decide) hx14 (by decide +kernel) (by exact ev_ab_13) ?_
      intro s15
      refine ev_r_aload_n (pc := 63) (k := 0) (v := .ref 6) trivial (by decide +kernel) (by rfl) ?_
      refine ev_r_virt (pc := 64) (y := 59) (mi := 20) (na := 0) (k := 6) (as := []) (rest := []) (encc := ev_oU) (Q := ev_PU) (fun x S1 h => jt_20 d (by omega) Q   s15 x S1 h) (by exact ev_ob_6) (by decide +kernel) (by decide +kernel) (by decide +kernel) (by decide +kernel) rfl (by (try simp only [ev_sum, ev_nv_cat]); first | done | rfl) ?_
      intro _ s16 _
      show ev_w _ _ _ _ _ [] _ _ _ _
      refine ev_r_aload_n (pc := 67) (k := 0) (v := .ref 6) trivial (by decide +kernel) (by rfl) ?_
      refine ev_r_getC (pc := 68) (y := 28) (ci := 1) (f := 5) (fin := 1) (k' := 12) (by decide +kernel) (by decide +kernel) (by exact ev_ob_6) rfl rfl ?_
      refine ev_r_aload_n (pc := 71) (k := 0) (v := .ref 6) trivial (by decide +kernel) (by rfl) ?_
      refine ev_r_getI (pc := 72) (y := 47) (ci := 1) (f := 7) (fin := 0) (by decide +kernel) (by decide +kernel) (by exact ev_ob_6) rfl ?_
      intro x17 hx17
      refine ev_r_aload_n (pc := 75) (k := 0) (v := .ref 6) trivial (by decide +kernel) (by rfl) ?_
      refine ev_r_getR (pc := 76) (y := 35) (ci := 1) (f := 8) (fin := 0) (t := 10) (by decide +kernel) (by decide +kernel) (by exact ev_ob_6) rfl rfl ?_
      intro r18 hr18
      have hr18 : r18 = 0 ∨ ev_isOb (r18 - 1) 10 = true := hr18
      refine ev_r_aload_n (pc := 79) (k := 0) (v := .ref 6) trivial (by decide +kernel) (by rfl) ?_
      refine ev_r_getI (pc := 80) (y := 39) (ci := 1) (f := 9) (fin := 0) (by decide +kernel) (by decide +kernel) (by exact ev_ob_6) rfl ?_
      intro x19 hx19
      refine ev_r_chk ?_
      intro c20
      refine ev_r_dr (r := r18) (fun v => [.int (Int32.ofInt x19), v, .int (Int32.ofInt x17), .ref 12]) c20 ?_
      refine ev_r_virt (pc := 83) (y := 62) (mi := 151) (na := 1) (k := (r18 - 1)) (as := [.int (Int32.ofInt x19)]) (rest := [.int (Int32.ofInt x17), .ref 12]) (encc := ev_oI) (Q := ev_rng) (fun x S1 h => jt_151 d (by omega) Q ((r18 - 1)) x19 (hr18.resolve_left c20) hx19 s16 x S1 h) (by exact (hr18.resolve_left c20)) (by decide +kernel) (by decide +kernel) (by decide +kernel) (by decide +kernel) rfl (by (try simp only [ev_sum, ev_nv_cat]); first | done | rfl) ?_
      intro x22 s21 hx22
      show ev_w _ _ _ _ _ [.int (Int32.ofInt x22), .int (Int32.ofInt x17), .ref 12] _ _ _ _
      refine ev_r_bipush (pc := 86) (k := 94) (by decide +kernel) (by decide +kernel) ?_
      refine ev_r_jn (Q := fun K => ∀ (x25 : Int) (hx25 : ev_rng x25), ∀ (x24 : Int) (hx24 : ev_rng x24), ∀ (r23 : Nat) (hr23 : ev_isAb r23 1 .boolean = true), ∀ (s28 : ev_St) (w26 : List (Nat × Value)), ev_lk w26 0 = some (.ref 6) → ev_w none (ev_Mof 19) d 96 w26 [.int (Int32.ofInt x25), .int (Int32.ofInt x24), .ref r23] s28 (K x25 x24 r23 s28) ev_eI ev_bl) ?_ ?_
      · intro x25 hx25 x24 hx24 r23 hr23 s28 w26 e27
        refine ev_r_chk ?_
        intro c30
        refine ev_r_bast (pc := 96) (ty := .boolean) (Or.inr rfl) (ev_nar_bl c30) hx25 hx24 (by decide +kernel) (by exact hr23) ?_
        intro s29
        refine ev_r_aload_n (pc := 97) (k := 0) (v := .ref 6) trivial (by decide +kernel) (by exact e27) ?_
        refine ev_r_getC (pc := 98) (y := 28) (ci := 1) (f := 5) (fin := 1) (k' := 12) (by decide +kernel) (by decide +kernel) (by exact ev_ob_6) rfl rfl ?_
        refine ev_r_aload_n (pc := 101) (k := 0) (v := .ref 6) trivial (by decide +kernel) (by exact e27) ?_
        refine ev_r_getI (pc := 102) (y := 47) (ci := 1) (f := 7) (fin := 0) (by decide +kernel) (by decide +kernel) (by exact ev_ob_6) rfl ?_
        intro x31 hx31
        refine ev_r_bald (pc := 105) (ty := .boolean) (Or.inr rfl) hx31 (by decide +kernel) (by exact ev_ab_12) ?_
        intro x32 hx32
        refine ev_r_if (pc := 106) (q := .eq) (o := 13) (t := 119) (c := x32 = 0) (by decide +kernel) (ev_k_eq hx32 ev_rng0) (by decide +kernel) ?_ ?_
        · intro c33
          refine ev_r_iconst (pc := 119) (k := 1) (by decide +kernel) ?_
          exact ev_r_ireturn (pc := 120) (x := 1) (v := Int32.ofInt 1) (ty := .boolean) (by decide : ev_bl 1) (by decide +kernel) (by decide +kernel) (ev_ret_bl (by decide : ev_bl 1)) rfl
        · intro c33
          refine ev_r_aload_n (pc := 109) (k := 0) (v := .ref 6) trivial (by decide +kernel) (by exact e27) ?_
          refine ev_r_dup (pc := 110) rfl (by decide +kernel) ?_
          refine ev_r_getI (pc := 111) (y := 39) (ci := 1) (f := 9) (fin := 0) (by decide +kernel) (by decide +kernel) (by exact ev_ob_6) rfl ?_
          intro x34 hx34
          refine ev_r_iconst (pc := 114) (k := 1) (by decide +kernel) ?_
          refine ev_r_iadd (pc := 115) (by decide +kernel) ?_
          intro x35 hx35
          refine ev_r_putI (pc := 116) (y := 39) (ci := 1) (f := 9) hx35 (by decide +kernel) (by decide +kernel) (by exact ev_ob_6) rfl rfl ?_
          intro s36
          refine ev_r_iconst (pc := 119) (k := 1) (by decide +kernel) ?_
          exact ev_r_ireturn (pc := 120) (x := 1) (v := Int32.ofInt 1) (ty := .boolean) (by decide : ev_bl 1) (by decide +kernel) (by decide +kernel) (ev_ret_bl (by decide : ev_bl 1)) rfl
      · intro K96 hK96
        refine ev_r_icmp (pc := 88) (q := .ne) (o := 7) (t := 95) (c := x22 ≠ 94) (by decide +kernel) (ev_k_ne hx22 (by decide)) (by decide +kernel) ?_ ?_
        · intro c37
          refine ev_r_iconst (pc := 95) (k := 0) (by decide +kernel) ?_
          exact hK96 0 (by decide) x17 hx17 12 ev_ab_12 s21 _ (by rfl)
        · intro c37
          refine ev_r_iconst (pc := 91) (k := 1) (by decide +kernel) ?_
          refine ev_r_goto (pc := 92) (o := 4) (t := 96) (by decide +kernel) (by decide +kernel) ?_
          exact hK96 1 (by decide) x17 hx17 12 ev_ab_12 s21 _ (by rfl)
    · intro c6
      refine ev_r_iconst (pc := 21) (k := 0) (by decide +kernel) ?_
      exact ev_r_ireturn (pc := 22) (x := 0) (v := Int32.ofInt 0) (ty := .boolean) (by decide : ev_bl 0) (by decide +kernel) (by decide +kernel) (ev_ret_bl (by decide : ev_bl 0)) rfl
/-- MendBench$ClassReader.join()Z -/
def jm_24 (Q : Nat)  (S : ev_St) : Option ((Int) × ev_St) := ev_b (S.1 6 7) fun x1 => if x1 < 0 then (some (0, S)) else (ev_b (S.1 6 7) fun x3 => if 128 ≤ x3 then (some (0, S)) else (ev_b (S.1 6 7) fun x5 => ev_if ((0 : Int) ≤ x5 ∧ x5 < (ev_aln 11 : Int)) (ev_b (S.1 11 (Int.toNat x5)) fun x6 => if x6 ≠ 0 then (ev_b (S.1 6 7) fun x8 => ev_if ((0 : Int) ≤ x8 ∧ x8 < (ev_aln 13 : Int)) (ev_b (S.1 13 (Int.toNat x8)) fun x9 => if x9 ≠ 38 then (ev_b (S.1 6 7) fun x11 => ev_if ((0 : Int) ≤ x11 ∧ x11 < (ev_aln 13 : Int)) (ev_b (S.1 13 (Int.toNat x11)) fun x12 => if x12 ≠ 45 then (ev_b (S.1 6 7) fun x14 => ev_b (S.1 6 7) fun x15 => ev_if ((0 : Int) ≤ x15 ∧ x15 < (ev_aln 9 : Int)) (ev_b (S.2.1 9 (Int.toNat x15)) fun y16 => ev_if ((0 : Int) ≤ x14 ∧ x14 < (ev_aln 7 : Int)) (ev_b (ev_pL S 7 (Int.toNat x14) y16) fun s17 => ev_b (s17.1 6 7) fun x18 => ev_b (s17.1 6 7) fun x19 => ev_if ((0 : Int) ≤ x19 ∧ x19 < (ev_aln 10 : Int)) (ev_b (s17.2.1 10 (Int.toNat x19)) fun y20 => ev_if ((0 : Int) ≤ x18 ∧ x18 < (ev_aln 8 : Int)) (ev_b (ev_pL s17 8 (Int.toNat x18) y20) fun s21 => some (1, s21)))))) else (ev_b (S.1 6 7) fun x22 => ev_if ((0 : Int) ≤ x22 ∧ x22 < (ev_aln 7 : Int)) (ev_b (S.2.1 7 (Int.toNat x22)) fun y23 => ev_b (S.1 6 7) fun x24 => ev_if ((0 : Int) ≤ x24 ∧ x24 < (ev_aln 9 : Int)) (ev_b (S.2.1 9 (Int.toNat x24)) fun y25 => ev_b (y25 ^^^ (-1)) fun y26 => ev_b (y23 &&& y26) fun y27 => ev_if ((0 : Int) ≤ x22 ∧ x22 < (ev_aln 7 : Int)) (ev_b (ev_pL S 7 (Int.toNat x22) y27) fun s28 => ev_b (s28.1 6 7) fun x29 => ev_if ((0 : Int) ≤ x29 ∧ x29 < (ev_aln 8 : Int)) (ev_b (s28.2.1 8 (Int.toNat x29)) fun y30 => ev_b (s28.1 6 7) fun x31 => ev_if ((0 : Int) ≤ x31 ∧ x31 < (ev_aln 10 : Int)) (ev_b (s28.2.1 10 (Int.toNat x31)) fun y32 => ev_b (y32 ^^^ (-1)) fun y33 => ev_b (y30 &&& y33) fun y34 => ev_if ((0 : Int) ≤ x29 ∧ x29 < (ev_aln 8 : Int)) (ev_b (ev_pL s28 8 (Int.toNat x29) y34) fun s35 => some (1, s35)))))))))) else (ev_b (S.1 6 7) fun x36 => ev_if ((0 : Int) ≤ x36 ∧ x36 < (ev_aln 7 : Int)) (ev_b (S.2.1 7 (Int.toNat x36)) fun y37 => ev_b (S.1 6 7) fun x38 => ev_if ((0 : Int) ≤ x38 ∧ x38 < (ev_aln 9 : Int)) (ev_b (S.2.1 9 (Int.toNat x38)) fun y39 => ev_b (y37 &&& y39) fun y40 => ev_if ((0 : Int) ≤ x36 ∧ x36 < (ev_aln 7 : Int)) (ev_b (ev_pL S 7 (Int.toNat x36) y40) fun s41 => ev_b (s41.1 6 7) fun x42 => ev_if ((0 : Int) ≤ x42 ∧ x42 < (ev_aln 8 : Int)) (ev_b (s41.2.1 8 (Int.toNat x42)) fun y43 => ev_b (s41.1 6 7) fun x44 => ev_if ((0 : Int) ≤ x44 ∧ x44 < (ev_aln 10 : Int)) (ev_b (s41.2.1 10 (Int.toNat x44)) fun y45 => ev_b (y43 &&& y45) fun y46 => ev_if ((0 : Int) ≤ x42 ∧ x42 < (ev_aln 8 : Int)) (ev_b (ev_pL s41 8 (Int.toNat x42) y46) fun s47 => some (1, s47)))))))))) else (some (0, S)))))
theorem jt_24 (d : Nat) (hd : 1 ≤ d) (Q : Nat)   (S : ev_St) (x : Int) (S' : ev_St) (hJ : jm_24 Q  S = some (x, S')) : ev_Ref d 24 [.ref 6] S (ev_eI x) S' (ev_bl x) := by
  obtain ⟨d, rfl⟩ : ∃ e, d = e + 1 := ⟨d - 1, by omega⟩
  refine ev_ref_of (P := ev_bl) (lv := [(0, .ref 6)]) (by decide +kernel) (by (try simp only [ev_sum, ev_nv_cat]); first | done | rfl) (by (try simp only [lv_args, ev_nv_cat]); first | done | rfl) ?_ x S' hJ
  unfold jm_24
  refine ev_r_aload_n (pc := 0) (k := 0) (v := .ref 6) trivial (by decide +kernel) (by rfl) ?_
  refine ev_r_getI (pc := 1) (y := 47) (ci := 1) (f := 7) (fin := 0) (by decide +kernel) (by decide +kernel) (by exact ev_ob_6) rfl ?_
  intro x1 hx1
  refine ev_r_if (pc := 4) (q := .lt) (o := 25) (t := 29) (c := x1 < 0) (by decide +kernel) (ev_k_lt hx1 ev_rng0) (by decide +kernel) ?_ ?_
  · intro c2
    refine ev_r_iconst (pc := 29) (k := 0) (by decide +kernel) ?_
    exact ev_r_ireturn (pc := 30) (x := 0) (v := Int32.ofInt 0) (ty := .boolean) (by decide : ev_bl 0) (by decide +kernel) (by decide +kernel) (ev_ret_bl (by decide : ev_bl 0)) rfl
  · intro c2
    refine ev_r_aload_n (pc := 7) (k := 0) (v := .ref 6) trivial (by decide +kernel) (by rfl) ?_
    refine ev_r_getI (pc := 8) (y := 47) (ci := 1) (f := 7) (fin := 0) (by decide +kernel) (by decide +kernel) (by exact ev_ob_6) rfl ?_
    intro x3 hx3
    refine ev_r_sipush (pc := 11) (k := 128) (by decide +kernel) (by decide +kernel) ?_
    refine ev_r_icmp (pc := 14) (q := .ge) (o := 15) (t := 29) (c := 128 ≤ x3) (by decide +kernel) (ev_k_ge hx3 (by decide)) (by decide +kernel) ?_ ?_
    · intro c4
      refine ev_r_iconst (pc := 29) (k := 0) (by decide +kernel) ?_
      exact ev_r_ireturn (pc := 30) (x := 0) (v := Int32.ofInt 0) (ty := .boolean) (by decide : ev_bl 0) (by decide +kernel) (by decide +kernel) (ev_ret_bl (by decide : ev_bl 0)) rfl
    · intro c4
      refine ev_r_aload_n (pc := 17) (k := 0) (v := .ref 6) trivial (by decide +kernel) (by rfl) ?_
      refine ev_r_getC (pc := 18) (y := 24) (ci := 1) (f := 4) (fin := 1) (k' := 11) (by decide +kernel) (by decide +kernel) (by exact ev_ob_6) rfl rfl ?_
      refine ev_r_aload_n (pc := 21) (k := 0) (v := .ref 6) trivial (by decide +kernel) (by rfl) ?_
      refine ev_r_getI (pc := 22) (y := 47) (ci := 1) (f := 7) (fin := 0) (by decide +kernel) (by decide +kernel) (by exact ev_ob_6) rfl ?_
      intro x5 hx5
      refine ev_r_bald (pc := 25) (ty := .boolean) (Or.inr rfl) hx5 (by decide +kernel) (by exact ev_ab_11) ?_
      intro x6 hx6
      refine ev_r_if (pc := 26) (q := .ne) (o := 5) (t := 31) (c := x6 ≠ 0) (by decide +kernel) (ev_k_ne hx6 ev_rng0) (by decide +kernel) ?_ ?_
      · intro c7
        refine ev_r_aload_n (pc := 31) (k := 0) (v := .ref 6) trivial (by decide +kernel) (by rfl) ?_
        refine ev_r_getC (pc := 32) (y := 31) (ci := 1) (f := 6) (fin := 1) (k' := 13) (by decide +kernel) (by decide +kernel) (by exact ev_ob_6) rfl rfl ?_
        refine ev_r_aload_n (pc := 35) (k := 0) (v := .ref 6) trivial (by decide +kernel) (by rfl) ?_
        refine ev_r_getI (pc := 36) (y := 47) (ci := 1) (f := 7) (fin := 0) (by decide +kernel) (by decide +kernel) (by exact ev_ob_6) rfl ?_
        intro x8 hx8
        refine ev_r_iald (pc := 39) hx8 (by decide +kernel) (by exact ev_ab_13) ?_
        intro x9 hx9
        refine ev_r_bipush (pc := 40) (k := 38) (by decide +kernel) (by decide +kernel) ?_
        refine ev_r_icmp (pc := 42) (q := .ne) (o := 48) (t := 90) (c := x9 ≠ 38) (by decide +kernel) (ev_k_ne hx9 (by decide)) (by decide +kernel) ?_ ?_
        · intro c10
          refine ev_r_aload_n (pc := 90) (k := 0) (v := .ref 6) trivial (by decide +kernel) (by rfl) ?_
          refine ev_r_getC (pc := 91) (y := 31) (ci := 1) (f := 6) (fin := 1) (k' := 13) (by decide +kernel) (by decide +kernel) (by exact ev_ob_6) rfl rfl ?_
          refine ev_r_aload_n (pc := 94) (k := 0) (v := .ref 6) trivial (by decide +kernel) (by rfl) ?_
          refine ev_r_getI (pc := 95) (y := 47) (ci := 1) (f := 7) (fin := 0) (by decide +kernel) (by decide +kernel) (by exact ev_ob_6) rfl ?_
          intro x11 hx11
          refine ev_r_iald (pc := 98) hx11 (by decide +kernel) (by exact ev_ab_13) ?_
          intro x12 hx12
          refine ev_r_bipush (pc := 99) (k := 45) (by decide +kernel) (by decide +kernel) ?_
          refine ev_r_icmp (pc := 101) (q := .ne) (o := 56) (t := 157) (c := x12 ≠ 45) (by decide +kernel) (ev_k_ne hx12 (by decide)) (by decide +kernel) ?_ ?_
          · intro c13
            refine ev_r_aload_n (pc := 157) (k := 0) (v := .ref 6) trivial (by decide +kernel) (by rfl) ?_
            refine ev_r_getC (pc := 158) (y := 11) (ci := 1) (f := 0) (fin := 1) (k' := 7) (by decide +kernel) (by decide +kernel) (by exact ev_ob_6) rfl rfl ?_
            refine ev_r_aload_n (pc := 161) (k := 0) (v := .ref 6) trivial (by decide +kernel) (by rfl) ?_
            refine ev_r_getI (pc := 162) (y := 47) (ci := 1) (f := 7) (fin := 0) (by decide +kernel) (by decide +kernel) (by exact ev_ob_6) rfl ?_
            intro x14 hx14
            refine ev_r_aload_n (pc := 165) (k := 0) (v := .ref 6) trivial (by decide +kernel) (by rfl) ?_
            refine ev_r_getC (pc := 166) (y := 18) (ci := 1) (f := 2) (fin := 1) (k' := 9) (by decide +kernel) (by decide +kernel) (by exact ev_ob_6) rfl rfl ?_
            refine ev_r_aload_n (pc := 169) (k := 0) (v := .ref 6) trivial (by decide +kernel) (by rfl) ?_
            refine ev_r_getI (pc := 170) (y := 47) (ci := 1) (f := 7) (fin := 0) (by decide +kernel) (by decide +kernel) (by exact ev_ob_6) rfl ?_
            intro x15 hx15
            refine ev_r_lald (pc := 173) hx15 (by decide +kernel) (by exact ev_ab_9) ?_
            intro y16
            refine ev_r_last (pc := 174) hx14 (by decide +kernel) (by exact ev_ab_7) ?_
            intro s17
            refine ev_r_aload_n (pc := 175) (k := 0) (v := .ref 6) trivial (by decide +kernel) (by rfl) ?_
            refine ev_r_getC (pc := 176) (y := 15) (ci := 1) (f := 1) (fin := 1) (k' := 8) (by decide +kernel) (by decide +kernel) (by exact ev_ob_6) rfl rfl ?_
            refine ev_r_aload_n (pc := 179) (k := 0) (v := .ref 6) trivial (by decide +kernel) (by rfl) ?_
            refine ev_r_getI (pc := 180) (y := 47) (ci := 1) (f := 7) (fin := 0) (by decide +kernel) (by decide +kernel) (by exact ev_ob_6) rfl ?_
            intro x18 hx18
            refine ev_r_aload_n (pc := 183) (k := 0) (v := .ref 6) trivial (by decide +kernel) (by rfl) ?_
            refine ev_r_getC (pc := 184) (y := 21) (ci := 1) (f := 3) (fin := 1) (k' := 10) (by decide +kernel) (by decide +kernel) (by exact ev_ob_6) rfl rfl ?_
            refine ev_r_aload_n (pc := 187) (k := 0) (v := .ref 6) trivial (by decide +kernel) (by rfl) ?_
            refine ev_r_getI (pc := 188) (y := 47) (ci := 1) (f := 7) (fin := 0) (by decide +kernel) (by decide +kernel) (by exact ev_ob_6) rfl ?_
            intro x19 hx19
            refine ev_r_lald (pc := 191) hx19 (by decide +kernel) (by exact ev_ab_10) ?_
            intro y20
            refine ev_r_last (pc := 192) hx18 (by decide +kernel) (by exact ev_ab_8) ?_
            intro s21
            refine ev_r_iconst (pc := 193) (k := 1) (by decide +kernel) ?_
            exact ev_r_ireturn (pc := 194) (x := 1) (v := Int32.ofInt 1) (ty := .boolean) (by decide : ev_bl 1) (by decide +kernel) (by decide +kernel) (ev_ret_bl (by decide : ev_bl 1)) rfl
          · intro c13
            refine ev_r_aload_n (pc := 104) (k := 0) (v := .ref 6) trivial (by decide +kernel) (by rfl) ?_
            refine ev_r_getC (pc := 105) (y := 11) (ci := 1) (f := 0) (fin := 1) (k' := 7) (by decide +kernel) (by decide +kernel) (by exact ev_ob_6) rfl rfl ?_
            refine ev_r_aload_n (pc := 108) (k := 0) (v := .ref 6) trivial (by decide +kernel) (by rfl) ?_
            refine ev_r_getI (pc := 109) (y := 47) (ci := 1) (f := 7) (fin := 0) (by decide +kernel) (by decide +kernel) (by exact ev_ob_6) rfl ?_
            intro x22 hx22
            refine ev_r_dup2 (pc := 112) rfl rfl (by decide +kernel) ?_
            refine ev_r_lald (pc := 113) hx22 (by decide +kernel) (by exact ev_ab_7) ?_
            intro y23
            refine ev_r_aload_n (pc := 114) (k := 0) (v := .ref 6) trivial (by decide +kernel) (by rfl) ?_
            refine ev_r_getC (pc := 115) (y := 18) (ci := 1) (f := 2) (fin := 1) (k' := 9) (by decide +kernel) (by decide +kernel) (by exact ev_ob_6) rfl rfl ?_
            refine ev_r_aload_n (pc := 118) (k := 0) (v := .ref 6) trivial (by decide +kernel) (by rfl) ?_
            refine ev_r_getI (pc := 119) (y := 47) (ci := 1) (f := 7) (fin := 0) (by decide +kernel) (by decide +kernel) (by exact ev_ob_6) rfl ?_
            intro x24 hx24
            refine ev_r_lald (pc := 122) hx24 (by decide +kernel) (by exact ev_ab_9) ?_
            intro y25
            refine ev_r_ldc2 (pc := 123) (y := 93) (k := -1) (by decide +kernel) (by decide +kernel) ?_
            refine ev_r_toL (pc := 126) (i := .lxor) (len := 1) (pc' := 127) (by decide +kernel) rfl ?_
            intro y26
            refine ev_r_toL (pc := 127) (i := .land) (len := 1) (pc' := 128) (by decide +kernel) rfl ?_
            intro y27
            refine ev_r_last (pc := 128) hx22 (by decide +kernel) (by exact ev_ab_7) ?_
            intro s28
            refine ev_r_aload_n (pc := 129) (k := 0) (v := .ref 6) trivial (by decide +kernel) (by rfl) ?_
            refine ev_r_getC (pc := 130) (y := 15) (ci := 1) (f := 1) (fin := 1) (k' := 8) (by decide +kernel) (by decide +kernel) (by exact ev_ob_6) rfl rfl ?_
            refine ev_r_aload_n (pc := 133) (k := 0) (v := .ref 6) trivial (by decide +kernel) (by rfl) ?_
            refine ev_r_getI (pc := 134) (y := 47) (ci := 1) (f := 7) (fin := 0) (by decide +kernel) (by decide +kernel) (by exact ev_ob_6) rfl ?_
            intro x29 hx29
            refine ev_r_dup2 (pc := 137) rfl rfl (by decide +kernel) ?_
            refine ev_r_lald (pc := 138) hx29 (by decide +kernel) (by exact ev_ab_8) ?_
            intro y30
            refine ev_r_aload_n (pc := 139) (k := 0) (v := .ref 6) trivial (by decide +kernel) (by rfl) ?_
            refine ev_r_getC (pc := 140) (y := 21) (ci := 1) (f := 3) (fin := 1) (k' := 10) (by decide +kernel) (by decide +kernel) (by exact ev_ob_6) rfl rfl ?_
            refine ev_r_aload_n (pc := 143) (k := 0) (v := .ref 6) trivial (by decide +kernel) (by rfl) ?_
            refine ev_r_getI (pc := 144) (y := 47) (ci := 1) (f := 7) (fin := 0) (by decide +kernel) (by decide +kernel) (by exact ev_ob_6) rfl ?_
            intro x31 hx31
            refine ev_r_lald (pc := 147) hx31 (by decide +kernel) (by exact ev_ab_10) ?_
            intro y32
            refine ev_r_ldc2 (pc := 148) (y := 93) (k := -1) (by decide +kernel) (by decide +kernel) ?_
            refine ev_r_toL (pc := 151) (i := .lxor) (len := 1) (pc' := 152) (by decide +kernel) rfl ?_
            intro y33
            refine ev_r_toL (pc := 152) (i := .land) (len := 1) (pc' := 153) (by decide +kernel) rfl ?_
            intro y34
            refine ev_r_last (pc := 153) hx29 (by decide +kernel) (by exact ev_ab_8) ?_
            intro s35
            refine ev_r_goto (pc := 154) (o := 39) (t := 193) (by decide +kernel) (by decide +kernel) ?_
            refine ev_r_iconst (pc := 193) (k := 1) (by decide +kernel) ?_
            exact ev_r_ireturn (pc := 194) (x := 1) (v := Int32.ofInt 1) (ty := .boolean) (by decide : ev_bl 1) (by decide +kernel) (by decide +kernel) (ev_ret_bl (by decide : ev_bl 1)) rfl
        · intro c10
          refine ev_r_aload_n (pc := 45) (k := 0) (v := .ref 6) trivial (by decide +kernel) (by rfl) ?_
          refine ev_r_getC (pc := 46) (y := 11) (ci := 1) (f := 0) (fin := 1) (k' := 7) (by decide +kernel) (by decide +kernel) (by exact ev_ob_6) rfl rfl ?_
          refine ev_r_aload_n (pc := 49) (k := 0) (v := .ref 6) trivial (by decide +kernel) (by rfl) ?_
          refine ev_r_getI (pc := 50) (y := 47) (ci := 1) (f := 7) (fin := 0) (by decide +kernel) (by decide +kernel) (by exact ev_ob_6) rfl ?_
          intro x36 hx36
          refine ev_r_dup2 (pc := 53) rfl rfl (by decide +kernel) ?_
          refine ev_r_lald (pc := 54) hx36 (by decide +kernel) (by exact ev_ab_7) ?_
          intro y37
          refine ev_r_aload_n (pc := 55) (k := 0) (v := .ref 6) trivial (by decide +kernel) (by rfl) ?_
          refine ev_r_getC (pc := 56) (y := 18) (ci := 1) (f := 2) (fin := 1) (k' := 9) (by decide +kernel) (by decide +kernel) (by exact ev_ob_6) rfl rfl ?_
          refine ev_r_aload_n (pc := 59) (k := 0) (v := .ref 6) trivial (by decide +kernel) (by rfl) ?_
          refine ev_r_getI (pc := 60) (y := 47) (ci := 1) (f := 7) (fin := 0) (by decide +kernel) (by decide +kernel) (by exact ev_ob_6) rfl ?_
          intro x38 hx38
          refine ev_r_lald (pc := 63) hx38 (by decide +kernel) (by exact ev_ab_9) ?_
          intro y39
          refine ev_r_toL (pc := 64) (i := .land) (len := 1) (pc' := 65) (by decide +kernel) rfl ?_
          intro y40
          refine ev_r_last (pc := 65) hx36 (by decide +kernel) (by exact ev_ab_7) ?_
          intro s41
          refine ev_r_aload_n (pc := 66) (k := 0) (v := .ref 6) trivial (by decide +kernel) (by rfl) ?_
          refine ev_r_getC (pc := 67) (y := 15) (ci := 1) (f := 1) (fin := 1) (k' := 8) (by decide +kernel) (by decide +kernel) (by exact ev_ob_6) rfl rfl ?_
          refine ev_r_aload_n (pc := 70) (k := 0) (v := .ref 6) trivial (by decide +kernel) (by rfl) ?_
          refine ev_r_getI (pc := 71) (y := 47) (ci := 1) (f := 7) (fin := 0) (by decide +kernel) (by decide +kernel) (by exact ev_ob_6) rfl ?_
          intro x42 hx42
          refine ev_r_dup2 (pc := 74) rfl rfl (by decide +kernel) ?_
          refine ev_r_lald (pc := 75) hx42 (by decide +kernel) (by exact ev_ab_8) ?_
          intro y43
          refine ev_r_aload_n (pc := 76) (k := 0) (v := .ref 6) trivial (by decide +kernel) (by rfl) ?_
          refine ev_r_getC (pc := 77) (y := 21) (ci := 1) (f := 3) (fin := 1) (k' := 10) (by decide +kernel) (by decide +kernel) (by exact ev_ob_6) rfl rfl ?_
          refine ev_r_aload_n (pc := 80) (k := 0) (v := .ref 6) trivial (by decide +kernel) (by rfl) ?_
          refine ev_r_getI (pc := 81) (y := 47) (ci := 1) (f := 7) (fin := 0) (by decide +kernel) (by decide +kernel) (by exact ev_ob_6) rfl ?_
          intro x44 hx44
          refine ev_r_lald (pc := 84) hx44 (by decide +kernel) (by exact ev_ab_10) ?_
          intro y45
          refine ev_r_toL (pc := 85) (i := .land) (len := 1) (pc' := 86) (by decide +kernel) rfl ?_
          intro y46
          refine ev_r_last (pc := 86) hx42 (by decide +kernel) (by exact ev_ab_8) ?_
          intro s47
          refine ev_r_goto (pc := 87) (o := 106) (t := 193) (by decide +kernel) (by decide +kernel) ?_
          refine ev_r_iconst (pc := 193) (k := 1) (by decide +kernel) ?_
          exact ev_r_ireturn (pc := 194) (x := 1) (v := Int32.ofInt 1) (ty := .boolean) (by decide : ev_bl 1) (by decide +kernel) (by decide +kernel) (ev_ret_bl (by decide : ev_bl 1)) rfl
      · intro c7
        refine ev_r_iconst (pc := 29) (k := 0) (by decide +kernel) ?_
        exact ev_r_ireturn (pc := 30) (x := 0) (v := Int32.ofInt 0) (ty := .boolean) (by decide : ev_bl 0) (by decide +kernel) (by decide +kernel) (ev_ret_bl (by decide : ev_bl 0)) rfl
/-- MendBench$ClassReader.put(JJ)Z -/
def jm_22 (Q : Nat) (a0 : Int64) (a1 : Int64) (S : ev_St) : Option ((Int) × ev_St) := ev_b (S.1 6 7) fun x1 => if x1 < 0 then (some (0, S)) else (ev_b (S.1 6 7) fun x3 => if x3 < 128 then (ev_b (S.1 6 7) fun x5 => ev_if ((0 : Int) ≤ x5 ∧ x5 < (ev_aln 9 : Int)) (ev_b (S.2.1 9 (Int.toNat x5)) fun y6 => ev_b (y6 ||| a0) fun y7 => ev_if ((0 : Int) ≤ x5 ∧ x5 < (ev_aln 9 : Int)) (ev_b (ev_pL S 9 (Int.toNat x5) y7) fun s8 => ev_b (s8.1 6 7) fun x9 => ev_if ((0 : Int) ≤ x9 ∧ x9 < (ev_aln 10 : Int)) (ev_b (s8.2.1 10 (Int.toNat x9)) fun y10 => ev_b (y10 ||| a1) fun y11 => ev_if ((0 : Int) ≤ x9 ∧ x9 < (ev_aln 10 : Int)) (ev_b (ev_pL s8 10 (Int.toNat x9) y11) fun s12 => ev_b (s12.1 6 7) fun x13 => ev_if ((0 : Int) ≤ x13 ∧ x13 < (ev_aln 11 : Int)) (ev_b (ev_pI s12 11 (Int.toNat x13) 1) fun s14 => some (1, s14))))))) else (some (0, S)))
theorem jt_22 (d : Nat) (hd : 1 ≤ d) (Q : Nat) (a0 : Int64) (a1 : Int64)  (S : ev_St) (x : Int) (S' : ev_St) (hJ : jm_22 Q a0 a1 S = some (x, S')) : ev_Ref d 22 [.ref 6, .long a0, .long a1] S (ev_eI x) S' (ev_bl x) := by
  obtain ⟨d, rfl⟩ : ∃ e, d = e + 1 := ⟨d - 1, by omega⟩
  refine ev_ref_of (P := ev_bl) (lv := [(0, .ref 6), (1, .long a0), (3, .long a1)]) (by decide +kernel) (by (try simp only [ev_sum, ev_nv_cat]); first | done | rfl) (by (try simp only [lv_args, ev_nv_cat]); first | done | rfl) ?_ x S' hJ
  unfold jm_22
  refine ev_r_aload_n (pc := 0) (k := 0) (v := .ref 6) trivial (by decide +kernel) (by rfl) ?_
  refine ev_r_getI (pc := 1) (y := 47) (ci := 1) (f := 7) (fin := 0) (by decide +kernel) (by decide +kernel) (by exact ev_ob_6) rfl ?_
  intro x1 hx1
  refine ev_r_if (pc := 4) (q := .lt) (o := 13) (t := 17) (c := x1 < 0) (by decide +kernel) (ev_k_lt hx1 ev_rng0) (by decide +kernel) ?_ ?_
  · intro c2
    refine ev_r_iconst (pc := 17) (k := 0) (by decide +kernel) ?_
    exact ev_r_ireturn (pc := 18) (x := 0) (v := Int32.ofInt 0) (ty := .boolean) (by decide : ev_bl 0) (by decide +kernel) (by decide +kernel) (ev_ret_bl (by decide : ev_bl 0)) rfl
  · intro c2
    refine ev_r_aload_n (pc := 7) (k := 0) (v := .ref 6) trivial (by decide +kernel) (by rfl) ?_
    refine ev_r_getI (pc := 8) (y := 47) (ci := 1) (f := 7) (fin := 0) (by decide +kernel) (by decide +kernel) (by exact ev_ob_6) rfl ?_
    intro x3 hx3
    refine ev_r_sipush (pc := 11) (k := 128) (by decide +kernel) (by decide +kernel) ?_
    refine ev_r_icmp (pc := 14) (q := .lt) (o := 5) (t := 19) (c := x3 < 128) (by decide +kernel) (ev_k_lt hx3 (by decide)) (by decide +kernel) ?_ ?_
    · intro c4
      refine ev_r_aload_n (pc := 19) (k := 0) (v := .ref 6) trivial (by decide +kernel) (by rfl) ?_
      refine ev_r_getC (pc := 20) (y := 18) (ci := 1) (f := 2) (fin := 1) (k' := 9) (by decide +kernel) (by decide +kernel) (by exact ev_ob_6) rfl rfl ?_
      refine ev_r_aload_n (pc := 23) (k := 0) (v := .ref 6) trivial (by decide +kernel) (by rfl) ?_
      refine ev_r_getI (pc := 24) (y := 47) (ci := 1) (f := 7) (fin := 0) (by decide +kernel) (by decide +kernel) (by exact ev_ob_6) rfl ?_
      intro x5 hx5
      refine ev_r_dup2 (pc := 27) rfl rfl (by decide +kernel) ?_
      refine ev_r_lald (pc := 28) hx5 (by decide +kernel) (by exact ev_ab_9) ?_
      intro y6
      refine ev_r_lload_n (pc := 29) (k := 1) (v := a0) (by decide +kernel) (by rfl) ?_
      refine ev_r_toL (pc := 30) (i := .lor) (len := 1) (pc' := 31) (by decide +kernel) rfl ?_
      intro y7
      refine ev_r_last (pc := 31) hx5 (by decide +kernel) (by exact ev_ab_9) ?_
      intro s8
      refine ev_r_aload_n (pc := 32) (k := 0) (v := .ref 6) trivial (by decide +kernel) (by rfl) ?_
      refine ev_r_getC (pc := 33) (y := 21) (ci := 1) (f := 3) (fin := 1) (k' := 10) (by decide +kernel) (by decide +kernel) (by exact ev_ob_6) rfl rfl ?_
      refine ev_r_aload_n (pc := 36) (k := 0) (v := .ref 6) trivial (by decide +kernel) (by rfl) ?_
      refine ev_r_getI (pc := 37) (y := 47) (ci := 1) (f := 7) (fin := 0) (by decide +kernel) (by decide +kernel) (by exact ev_ob_6) rfl ?_
      intro x9 hx9
      refine ev_r_dup2 (pc := 40) rfl rfl (by decide +kernel) ?_
      refine ev_r_lald (pc := 41) hx9 (by decide +kernel) (by exact ev_ab_10) ?_
      intro y10
      refine ev_r_lload_n (pc := 42) (k := 3) (v := a1) (by decide +kernel) (by rfl) ?_
      refine ev_r_toL (pc := 43) (i := .lor) (len := 1) (pc' := 44) (by decide +kernel) rfl ?_
      intro y11
      refine ev_r_last (pc := 44) hx9 (by decide +kernel) (by exact ev_ab_10) ?_
      intro s12
      refine ev_r_aload_n (pc := 45) (k := 0) (v := .ref 6) trivial (by decide +kernel) (by rfl) ?_
      refine ev_r_getC (pc := 46) (y := 24) (ci := 1) (f := 4) (fin := 1) (k' := 11) (by decide +kernel) (by decide +kernel) (by exact ev_ob_6) rfl rfl ?_
      refine ev_r_aload_n (pc := 49) (k := 0) (v := .ref 6) trivial (by decide +kernel) (by rfl) ?_
      refine ev_r_getI (pc := 50) (y := 47) (ci := 1) (f := 7) (fin := 0) (by decide +kernel) (by decide +kernel) (by exact ev_ob_6) rfl ?_
      intro x13 hx13
      refine ev_r_iconst (pc := 53) (k := 1) (by decide +kernel) ?_
      refine ev_r_bast (pc := 54) (ty := .boolean) (Or.inr rfl) (ev_nar_bl (by decide : ev_bl 1)) (by decide) hx13 (by decide +kernel) (by exact ev_ab_11) ?_
      intro s14
      refine ev_r_iconst (pc := 55) (k := 1) (by decide +kernel) ?_
      exact ev_r_ireturn (pc := 56) (x := 1) (v := Int32.ofInt 1) (ty := .boolean) (by decide : ev_bl 1) (by decide +kernel) (by decide +kernel) (ev_ret_bl (by decide : ev_bl 1)) rfl
    · intro c4
      refine ev_r_iconst (pc := 17) (k := 0) (by decide +kernel) ?_
      exact ev_r_ireturn (pc := 18) (x := 0) (v := Int32.ofInt 0) (ty := .boolean) (by decide : ev_bl 0) (by decide +kernel) (by decide +kernel) (ev_ret_bl (by decide : ev_bl 0)) rfl
/-- MendBench$ClassReader.end()Z -/
def jm_25 (Q : Nat)  (S : ev_St) : Option ((Int) × ev_St) := ev_bd (jm_24 Q  S) fun x2 s1 => if x2 ≠ 0 then (ev_b (s1.1 6 7) fun x4 => ev_if ((0 : Int) ≤ x4 ∧ x4 < (ev_aln 12 : Int)) (ev_b (s1.1 12 (Int.toNat x4)) fun x5 => ev_jn (fun (y6 : Int64) (s9 : ev_St) => ev_b (ev_pL s9 6 11 y6) fun s10 => ev_b (s10.1 6 7) fun x11 => ev_if ((0 : Int) ≤ x11 ∧ x11 < (ev_aln 12 : Int)) (ev_b (s10.1 12 (Int.toNat x11)) fun x12 => ev_jn (fun (y13 : Int64) (s16 : ev_St) => ev_b (ev_pL s16 6 12 y13) fun s17 => ev_b (s17.1 6 7) fun x18 => ev_ck (x18 - 1) fun x19 => ev_b (ev_pI s17 6 7 x19) fun s20 => ev_b (s20.1 6 7) fun x21 => if x21 < 0 then (some (1, s20)) else (ev_b (s20.2.1 6 11) fun y23 => ev_b (s20.2.1 6 12) fun y24 => ev_bd (jm_22 Q y23 y24 s20) fun x26 s25 => if x26 = 0 then (some (0, s25)) else (some (1, s25)))) fun K96 => if x12 = 0 then (ev_b (s10.1 6 7) fun x29 => ev_if ((0 : Int) ≤ x29 ∧ x29 < (ev_aln 8 : Int)) (ev_b (s10.2.1 8 (Int.toNat x29)) fun y30 => K96 y30 s10)) else (ev_b (s10.1 6 7) fun x31 => ev_if ((0 : Int) ≤ x31 ∧ x31 < (ev_aln 8 : Int)) (ev_b (s10.2.1 8 (Int.toNat x31)) fun y32 => ev_b (y32 ^^^ (-1)) fun y33 => ev_b ((9223372036854775807) &&& y33) fun y34 => K96 y34 s10)))) fun K51 => if x5 = 0 then (ev_b (s1.1 6 7) fun x36 => ev_if ((0 : Int) ≤ x36 ∧ x36 < (ev_aln 7 : Int)) (ev_b (s1.2.1 7 (Int.toNat x36)) fun y37 => K51 y37 s1)) else (ev_b (s1.1 6 7) fun x38 => ev_if ((0 : Int) ≤ x38 ∧ x38 < (ev_aln 7 : Int)) (ev_b (s1.2.1 7 (Int.toNat x38)) fun y39 => ev_b (y39 ^^^ (-1)) fun y40 => ev_b ((-4294966272) &&& y40) fun y41 => K51 y41 s1)))) else (some (0, s1))
theorem jt_25 (d : Nat) (hd : 2 ≤ d) (Q : Nat)   (S : ev_St) (x : Int) (S' : ev_St) (hJ : jm_25 Q  S = some (x, S')) : ev_Ref d 25 [.ref 6] S (ev_eI x) S' (ev_bl x) := by
  obtain ⟨d, rfl⟩ : ∃ e, d = e + 1 := ⟨d - 1, by omega⟩
  refine ev_ref_of (P := ev_bl) (lv := [(0, .ref 6)]) (by decide +kernel) (by (try simp only [ev_sum, ev_nv_cat]); first | done | rfl) (by (try simp only [lv_args, ev_nv_cat]); first | done | rfl) ?_ x S' hJ
  unfold jm_25
  refine ev_r_aload_n (pc := 0) (k := 0) (v := .ref 6) trivial (by decide +kernel) (by rfl) ?_
  refine ev_r_virt (pc := 1) (y := 90) (mi := 24) (na := 0) (k := 6) (as := []) (rest := []) (encc := ev_oI) (Q := ev_bl) (fun x S1 h => jt_24 d (by omega) Q   S x S1 h) (by exact ev_ob_6) (by decide +kernel) (by decide +kernel) (by decide +kernel) (by decide +kernel) rfl (by (try simp only [ev_sum, ev_nv_cat]); first | done | rfl) ?_
  intro x2 s1 hx2
  replace hx2 := ev_bl_rng hx2
  show ev_w _ _ _ _ _ [.int (Int32.ofInt x2)] _ _ _ _
  refine ev_r_if (pc := 4) (q := .ne) (o := 5) (t := 9) (c := x2 ≠ 0) (by decide +kernel) (ev_k_ne hx2 ev_rng0) (by decide +kernel) ?_ ?_
  · intro c3
    refine ev_r_aload_n (pc := 9) (k := 0) (v := .ref 6) trivial (by decide +kernel) (by rfl) ?_
    refine ev_r_aload_n (pc := 10) (k := 0) (v := .ref 6) trivial (by decide +kernel) (by rfl) ?_
    refine ev_r_getC (pc := 11) (y := 28) (ci := 1) (f := 5) (fin := 1) (k' := 12) (by decide +kernel) (by decide +kernel) (by exact ev_ob_6) rfl rfl ?_
    refine ev_r_aload_n (pc := 14) (k := 0) (v := .ref 6) trivial (by decide +kernel) (by rfl) ?_
    refine ev_r_getI (pc := 15) (y := 47) (ci := 1) (f := 7) (fin := 0) (by decide +kernel) (by decide +kernel) (by exact ev_ob_6) rfl ?_
    intro x4 hx4
    refine ev_r_bald (pc := 18) (ty := .boolean) (Or.inr rfl) hx4 (by decide +kernel) (by exact ev_ab_12) ?_
    intro x5 hx5
    refine ev_r_jn (Q := fun K => ∀ (y6 : Int64), ∀ (s9 : ev_St) (w7 : List (Nat × Value)), ev_lk w7 0 = some (.ref 6) → ev_w none (ev_Mof 25) d 51 w7 [.long y6, .ref 6] s9 (K y6 s9) ev_eI ev_bl) ?_ ?_
    · intro y6 s9 w7 e8
      refine ev_r_putL (pc := 51) (y := 97) (ci := 1) (f := 11) (by decide +kernel) (by decide +kernel) (by exact ev_ob_6) rfl rfl ?_
      intro s10
      refine ev_r_aload_n (pc := 54) (k := 0) (v := .ref 6) trivial (by decide +kernel) (by exact e8) ?_
      refine ev_r_aload_n (pc := 55) (k := 0) (v := .ref 6) trivial (by decide +kernel) (by exact e8) ?_
      refine ev_r_getC (pc := 56) (y := 28) (ci := 1) (f := 5) (fin := 1) (k' := 12) (by decide +kernel) (by decide +kernel) (by exact ev_ob_6) rfl rfl ?_
      refine ev_r_aload_n (pc := 59) (k := 0) (v := .ref 6) trivial (by decide +kernel) (by exact e8) ?_
      refine ev_r_getI (pc := 60) (y := 47) (ci := 1) (f := 7) (fin := 0) (by decide +kernel) (by decide +kernel) (by exact ev_ob_6) rfl ?_
      intro x11 hx11
      refine ev_r_bald (pc := 63) (ty := .boolean) (Or.inr rfl) hx11 (by decide +kernel) (by exact ev_ab_12) ?_
      intro x12 hx12
      refine ev_r_jn (Q := fun K => ∀ (y13 : Int64), ∀ (s16 : ev_St) (w14 : List (Nat × Value)), ev_lk w14 0 = some (.ref 6) → ev_w none (ev_Mof 25) d 96 w14 [.long y13, .ref 6] s16 (K y13 s16) ev_eI ev_bl) ?_ ?_
      · intro y13 s16 w14 e15
        refine ev_r_putL (pc := 96) (y := 103) (ci := 1) (f := 12) (by decide +kernel) (by decide +kernel) (by exact ev_ob_6) rfl rfl ?_
        intro s17
        refine ev_r_aload_n (pc := 99) (k := 0) (v := .ref 6) trivial (by decide +kernel) (by exact e15) ?_
        refine ev_r_dup (pc := 100) rfl (by decide +kernel) ?_
        refine ev_r_getI (pc := 101) (y := 47) (ci := 1) (f := 7) (fin := 0) (by decide +kernel) (by decide +kernel) (by exact ev_ob_6) rfl ?_
        intro x18 hx18
        refine ev_r_iconst (pc := 104) (k := 1) (by decide +kernel) ?_
        refine ev_r_isub (pc := 105) (by decide +kernel) ?_
        intro x19 hx19
        refine ev_r_putI (pc := 106) (y := 47) (ci := 1) (f := 7) hx19 (by decide +kernel) (by decide +kernel) (by exact ev_ob_6) rfl rfl ?_
        intro s20
        refine ev_r_aload_n (pc := 109) (k := 0) (v := .ref 6) trivial (by decide +kernel) (by exact e15) ?_
        refine ev_r_getI (pc := 110) (y := 47) (ci := 1) (f := 7) (fin := 0) (by decide +kernel) (by decide +kernel) (by exact ev_ob_6) rfl ?_
        intro x21 hx21
        refine ev_r_if (pc := 113) (q := .lt) (o := 18) (t := 131) (c := x21 < 0) (by decide +kernel) (ev_k_lt hx21 ev_rng0) (by decide +kernel) ?_ ?_
        · intro c22
          refine ev_r_iconst (pc := 131) (k := 1) (by decide +kernel) ?_
          refine ev_r_goto (pc := 132) (o := 4) (t := 136) (by decide +kernel) (by decide +kernel) ?_
          exact ev_r_ireturn (pc := 136) (x := 1) (v := Int32.ofInt 1) (ty := .boolean) (by decide : ev_bl 1) (by decide +kernel) (by decide +kernel) (ev_ret_bl (by decide : ev_bl 1)) rfl
        · intro c22
          refine ev_r_aload_n (pc := 116) (k := 0) (v := .ref 6) trivial (by decide +kernel) (by exact e15) ?_
          refine ev_r_aload_n (pc := 117) (k := 0) (v := .ref 6) trivial (by decide +kernel) (by exact e15) ?_
          refine ev_r_getL (pc := 118) (y := 97) (ci := 1) (f := 11) (fin := 0) (by decide +kernel) (by decide +kernel) (by exact ev_ob_6) rfl ?_
          intro y23
          refine ev_r_aload_n (pc := 121) (k := 0) (v := .ref 6) trivial (by decide +kernel) (by exact e15) ?_
          refine ev_r_getL (pc := 122) (y := 103) (ci := 1) (f := 12) (fin := 0) (by decide +kernel) (by decide +kernel) (by exact ev_ob_6) rfl ?_
          intro y24
          refine ev_r_virt (pc := 125) (y := 83) (mi := 22) (na := 2) (k := 6) (as := [.long y23, .long y24]) (rest := []) (encc := ev_oI) (Q := ev_bl) (fun x S1 h => jt_22 d (by omega) Q y23 y24  s20 x S1 h) (by exact ev_ob_6) (by decide +kernel) (by decide +kernel) (by decide +kernel) (by decide +kernel) rfl (by (try simp only [ev_sum, ev_nv_cat]); first | done | rfl) ?_
          intro x26 s25 hx26
          replace hx26 := ev_bl_rng hx26
          show ev_w _ _ _ _ _ [.int (Int32.ofInt x26)] _ _ _ _
          refine ev_r_if (pc := 128) (q := .eq) (o := 7) (t := 135) (c := x26 = 0) (by decide +kernel) (ev_k_eq hx26 ev_rng0) (by decide +kernel) ?_ ?_
          · intro c27
            refine ev_r_iconst (pc := 135) (k := 0) (by decide +kernel) ?_
            exact ev_r_ireturn (pc := 136) (x := 0) (v := Int32.ofInt 0) (ty := .boolean) (by decide : ev_bl 0) (by decide +kernel) (by decide +kernel) (ev_ret_bl (by decide : ev_bl 0)) rfl
          · intro c27
            refine ev_r_iconst (pc := 131) (k := 1) (by decide +kernel) ?_
            refine ev_r_goto (pc := 132) (o := 4) (t := 136) (by decide +kernel) (by decide +kernel) ?_
            exact ev_r_ireturn (pc := 136) (x := 1) (v := Int32.ofInt 1) (ty := .boolean) (by decide : ev_bl 1) (by decide +kernel) (by decide +kernel) (ev_ret_bl (by decide : ev_bl 1)) rfl
      · intro K96 hK96
        refine ev_r_if (pc := 64) (q := .eq) (o := 23) (t := 87) (c := x12 = 0) (by decide +kernel) (ev_k_eq hx12 ev_rng0) (by decide +kernel) ?_ ?_
        · intro c28
          refine ev_r_aload_n (pc := 87) (k := 0) (v := .ref 6) trivial (by decide +kernel) (by exact e8) ?_
          refine ev_r_getC (pc := 88) (y := 15) (ci := 1) (f := 1) (fin := 1) (k' := 8) (by decide +kernel) (by decide +kernel) (by exact ev_ob_6) rfl rfl ?_
          refine ev_r_aload_n (pc := 91) (k := 0) (v := .ref 6) trivial (by decide +kernel) (by exact e8) ?_
          refine ev_r_getI (pc := 92) (y := 47) (ci := 1) (f := 7) (fin := 0) (by decide +kernel) (by decide +kernel) (by exact ev_ob_6) rfl ?_
          intro x29 hx29
          refine ev_r_lald (pc := 95) hx29 (by decide +kernel) (by exact ev_ab_8) ?_
          intro y30
          exact hK96 y30 s10 _ (by exact e8)
        · intro c28
          refine ev_r_ldc2 (pc := 67) (y := 101) (k := 9223372036854775807) (by decide +kernel) (by decide +kernel) ?_
          refine ev_r_aload_n (pc := 70) (k := 0) (v := .ref 6) trivial (by decide +kernel) (by exact e8) ?_
          refine ev_r_getC (pc := 71) (y := 15) (ci := 1) (f := 1) (fin := 1) (k' := 8) (by decide +kernel) (by decide +kernel) (by exact ev_ob_6) rfl rfl ?_
          refine ev_r_aload_n (pc := 74) (k := 0) (v := .ref 6) trivial (by decide +kernel) (by exact e8) ?_
          refine ev_r_getI (pc := 75) (y := 47) (ci := 1) (f := 7) (fin := 0) (by decide +kernel) (by decide +kernel) (by exact ev_ob_6) rfl ?_
          intro x31 hx31
          refine ev_r_lald (pc := 78) hx31 (by decide +kernel) (by exact ev_ab_8) ?_
          intro y32
          refine ev_r_ldc2 (pc := 79) (y := 93) (k := -1) (by decide +kernel) (by decide +kernel) ?_
          refine ev_r_toL (pc := 82) (i := .lxor) (len := 1) (pc' := 83) (by decide +kernel) rfl ?_
          intro y33
          refine ev_r_toL (pc := 83) (i := .land) (len := 1) (pc' := 84) (by decide +kernel) rfl ?_
          intro y34
          refine ev_r_goto (pc := 84) (o := 12) (t := 96) (by decide +kernel) (by decide +kernel) ?_
          exact hK96 y34 s10 _ (by exact e8)
    · intro K51 hK51
      refine ev_r_if (pc := 19) (q := .eq) (o := 23) (t := 42) (c := x5 = 0) (by decide +kernel) (ev_k_eq hx5 ev_rng0) (by decide +kernel) ?_ ?_
      · intro c35
        refine ev_r_aload_n (pc := 42) (k := 0) (v := .ref 6) trivial (by decide +kernel) (by rfl) ?_
        refine ev_r_getC (pc := 43) (y := 11) (ci := 1) (f := 0) (fin := 1) (k' := 7) (by decide +kernel) (by decide +kernel) (by exact ev_ob_6) rfl rfl ?_
        refine ev_r_aload_n (pc := 46) (k := 0) (v := .ref 6) trivial (by decide +kernel) (by rfl) ?_
        refine ev_r_getI (pc := 47) (y := 47) (ci := 1) (f := 7) (fin := 0) (by decide +kernel) (by decide +kernel) (by exact ev_ob_6) rfl ?_
        intro x36 hx36
        refine ev_r_lald (pc := 50) hx36 (by decide +kernel) (by exact ev_ab_7) ?_
        intro y37
        exact hK51 y37 s1 _ (by rfl)
      · intro c35
        refine ev_r_ldc2 (pc := 22) (y := 95) (k := -4294966272) (by decide +kernel) (by decide +kernel) ?_
        refine ev_r_aload_n (pc := 25) (k := 0) (v := .ref 6) trivial (by decide +kernel) (by rfl) ?_
        refine ev_r_getC (pc := 26) (y := 11) (ci := 1) (f := 0) (fin := 1) (k' := 7) (by decide +kernel) (by decide +kernel) (by exact ev_ob_6) rfl rfl ?_
        refine ev_r_aload_n (pc := 29) (k := 0) (v := .ref 6) trivial (by decide +kernel) (by rfl) ?_
        refine ev_r_getI (pc := 30) (y := 47) (ci := 1) (f := 7) (fin := 0) (by decide +kernel) (by decide +kernel) (by exact ev_ob_6) rfl ?_
        intro x38 hx38
        refine ev_r_lald (pc := 33) hx38 (by decide +kernel) (by exact ev_ab_7) ?_
        intro y39
        refine ev_r_ldc2 (pc := 34) (y := 93) (k := -1) (by decide +kernel) (by decide +kernel) ?_
        refine ev_r_toL (pc := 37) (i := .lxor) (len := 1) (pc' := 38) (by decide +kernel) rfl ?_
        intro y40
        refine ev_r_toL (pc := 38) (i := .land) (len := 1) (pc' := 39) (by decide +kernel) rfl ?_
        intro y41
        refine ev_r_goto (pc := 39) (o := 12) (t := 51) (by decide +kernel) (by decide +kernel) ?_
        exact hK51 y41 s1 _ (by rfl)
  · intro c3
    refine ev_r_iconst (pc := 7) (k := 0) (by decide +kernel) ?_
    exact ev_r_ireturn (pc := 8) (x := 0) (v := Int32.ofInt 0) (ty := .boolean) (by decide : ev_bl 0) (by decide +kernel) (by decide +kernel) (ev_ret_bl (by decide : ev_bl 0)) rfl
/-- MendBench$ClassReader.readJoint(I)Z -/
def jm_23 (Q : Nat) (a0 : Int) (S : ev_St) : Option ((Int) × ev_St) := ev_bd (jm_24 Q  S) fun x2 s1 => if x2 ≠ 0 then (ev_b (s1.1 6 7) fun x4 => ev_if ((0 : Int) ≤ x4 ∧ x4 < (ev_aln 13 : Int)) (ev_b (ev_pI s1 13 (Int.toNat x4) a0) fun s5 => ev_bd (jm_20 Q  s5) fun _ s6 => some (1, s6))) else (some (0, s1))
theorem jt_23 (d : Nat) (hd : 2 ≤ d) (Q : Nat) (a0 : Int) (ha0 : ev_rng a0) (S : ev_St) (x : Int) (S' : ev_St) (hJ : jm_23 Q a0 S = some (x, S')) : ev_Ref d 23 [.ref 6, .int (Int32.ofInt a0)] S (ev_eI x) S' (ev_bl x) := by
  obtain ⟨d, rfl⟩ : ∃ e, d = e + 1 := ⟨d - 1, by omega⟩
  refine ev_ref_of (P := ev_bl) (lv := [(0, .ref 6), (1, .int (Int32.ofInt a0))]) (by decide +kernel) (by (try simp only [ev_sum, ev_nv_cat]); first | done | rfl) (by (try simp only [lv_args, ev_nv_cat]); first | done | rfl) ?_ x S' hJ
  unfold jm_23
  refine ev_r_aload_n (pc := 0) (k := 0) (v := .ref 6) trivial (by decide +kernel) (by rfl) ?_
  refine ev_r_virt (pc := 1) (y := 90) (mi := 24) (na := 0) (k := 6) (as := []) (rest := []) (encc := ev_oI) (Q := ev_bl) (fun x S1 h => jt_24 d (by omega) Q   S x S1 h) (by exact ev_ob_6) (by decide +kernel) (by decide +kernel) (by decide +kernel) (by decide +kernel) rfl (by (try simp only [ev_sum, ev_nv_cat]); first | done | rfl) ?_
  intro x2 s1 hx2
  replace hx2 := ev_bl_rng hx2
  show ev_w _ _ _ _ _ [.int (Int32.ofInt x2)] _ _ _ _
  refine ev_r_if (pc := 4) (q := .ne) (o := 5) (t := 9) (c := x2 ≠ 0) (by decide +kernel) (ev_k_ne hx2 ev_rng0) (by decide +kernel) ?_ ?_
  · intro c3
    refine ev_r_aload_n (pc := 9) (k := 0) (v := .ref 6) trivial (by decide +kernel) (by rfl) ?_
    refine ev_r_getC (pc := 10) (y := 31) (ci := 1) (f := 6) (fin := 1) (k' := 13) (by decide +kernel) (by decide +kernel) (by exact ev_ob_6) rfl rfl ?_
    refine ev_r_aload_n (pc := 13) (k := 0) (v := .ref 6) trivial (by decide +kernel) (by rfl) ?_
    refine ev_r_getI (pc := 14) (y := 47) (ci := 1) (f := 7) (fin := 0) (by decide +kernel) (by decide +kernel) (by exact ev_ob_6) rfl ?_
    intro x4 hx4
    refine ev_r_iload_n (pc := 17) (k := 1) (v := Int32.ofInt a0) (by decide +kernel) (by rfl) ?_
    refine ev_r_iast (pc := 18) ha0 hx4 (by decide +kernel) (by exact ev_ab_13) ?_
    intro s5
    refine ev_r_aload_n (pc := 19) (k := 0) (v := .ref 6) trivial (by decide +kernel) (by rfl) ?_
    refine ev_r_virt (pc := 20) (y := 59) (mi := 20) (na := 0) (k := 6) (as := []) (rest := []) (encc := ev_oU) (Q := ev_PU) (fun x S1 h => jt_20 d (by omega) Q   s5 x S1 h) (by exact ev_ob_6) (by decide +kernel) (by decide +kernel) (by decide +kernel) (by decide +kernel) rfl (by (try simp only [ev_sum, ev_nv_cat]); first | done | rfl) ?_
    intro _ s6 _
    show ev_w _ _ _ _ _ [] _ _ _ _
    refine ev_r_iconst (pc := 23) (k := 1) (by decide +kernel) ?_
    exact ev_r_ireturn (pc := 24) (x := 1) (v := Int32.ofInt 1) (ty := .boolean) (by decide : ev_bl 1) (by decide +kernel) (by decide +kernel) (ev_ret_bl (by decide : ev_bl 1)) rfl
  · intro c3
    refine ev_r_iconst (pc := 7) (k := 0) (by decide +kernel) ?_
    exact ev_r_ireturn (pc := 8) (x := 0) (v := Int32.ofInt 0) (ty := .boolean) (by decide : ev_bl 0) (by decide +kernel) (by decide +kernel) (ev_ret_bl (by decide : ev_bl 0)) rfl
/-- MendBench.isKindLetter(I)Z -/
def jm_216 (Q : Nat) (a0 : Int) (S : ev_St) : Option ((Int) × ev_St) := if a0 = 100 then (some (1, S)) else (if a0 = 119 then (some (1, S)) else (if a0 = 115 then (some (1, S)) else (if a0 = 68 then (some (1, S)) else (if a0 = 87 then (some (1, S)) else (if a0 ≠ 83 then (some (0, S)) else (some (1, S)))))))
theorem jt_216 (d : Nat) (hd : 1 ≤ d) (Q : Nat) (a0 : Int) (ha0 : ev_rng a0) (S : ev_St) (x : Int) (S' : ev_St) (hJ : jm_216 Q a0 S = some (x, S')) : ev_Ref d 216 [.int (Int32.ofInt a0)] S (ev_eI x) S' (ev_bl x) := by
  obtain ⟨d, rfl⟩ : ∃ e, d = e + 1 := ⟨d - 1, by omega⟩
  refine ev_ref_of (P := ev_bl) (lv := [(0, .int (Int32.ofInt a0))]) (by decide +kernel) (by (try simp only [ev_sum, ev_nv_cat]); first | done | rfl) (by (try simp only [lv_args, ev_nv_cat]); first | done | rfl) ?_ x S' hJ
  unfold jm_216
  refine ev_r_iload_n (pc := 0) (k := 0) (v := Int32.ofInt a0) (by decide +kernel) (by rfl) ?_
  refine ev_r_bipush (pc := 1) (k := 100) (by decide +kernel) (by decide +kernel) ?_
  refine ev_r_icmp (pc := 3) (q := .eq) (o := 33) (t := 36) (c := a0 = 100) (by decide +kernel) (ev_k_eq ha0 (by decide)) (by decide +kernel) ?_ ?_
  · intro c1
    refine ev_r_iconst (pc := 36) (k := 1) (by decide +kernel) ?_
    refine ev_r_goto (pc := 37) (o := 4) (t := 41) (by decide +kernel) (by decide +kernel) ?_
    exact ev_r_ireturn (pc := 41) (x := 1) (v := Int32.ofInt 1) (ty := .boolean) (by decide : ev_bl 1) (by decide +kernel) (by decide +kernel) (ev_ret_bl (by decide : ev_bl 1)) rfl
  · intro c1
    refine ev_r_iload_n (pc := 6) (k := 0) (v := Int32.ofInt a0) (by decide +kernel) (by rfl) ?_
    refine ev_r_bipush (pc := 7) (k := 119) (by decide +kernel) (by decide +kernel) ?_
    refine ev_r_icmp (pc := 9) (q := .eq) (o := 27) (t := 36) (c := a0 = 119) (by decide +kernel) (ev_k_eq ha0 (by decide)) (by decide +kernel) ?_ ?_
    · intro c2
      refine ev_r_iconst (pc := 36) (k := 1) (by decide +kernel) ?_
      refine ev_r_goto (pc := 37) (o := 4) (t := 41) (by decide +kernel) (by decide +kernel) ?_
      exact ev_r_ireturn (pc := 41) (x := 1) (v := Int32.ofInt 1) (ty := .boolean) (by decide : ev_bl 1) (by decide +kernel) (by decide +kernel) (ev_ret_bl (by decide : ev_bl 1)) rfl
    · intro c2
      refine ev_r_iload_n (pc := 12) (k := 0) (v := Int32.ofInt a0) (by decide +kernel) (by rfl) ?_
      refine ev_r_bipush (pc := 13) (k := 115) (by decide +kernel) (by decide +kernel) ?_
      refine ev_r_icmp (pc := 15) (q := .eq) (o := 21) (t := 36) (c := a0 = 115) (by decide +kernel) (ev_k_eq ha0 (by decide)) (by decide +kernel) ?_ ?_
      · intro c3
        refine ev_r_iconst (pc := 36) (k := 1) (by decide +kernel) ?_
        refine ev_r_goto (pc := 37) (o := 4) (t := 41) (by decide +kernel) (by decide +kernel) ?_
        exact ev_r_ireturn (pc := 41) (x := 1) (v := Int32.ofInt 1) (ty := .boolean) (by decide : ev_bl 1) (by decide +kernel) (by decide +kernel) (ev_ret_bl (by decide : ev_bl 1)) rfl
      · intro c3
        refine ev_r_iload_n (pc := 18) (k := 0) (v := Int32.ofInt a0) (by decide +kernel) (by rfl) ?_
        refine ev_r_bipush (pc := 19) (k := 68) (by decide +kernel) (by decide +kernel) ?_
        refine ev_r_icmp (pc := 21) (q := .eq) (o := 15) (t := 36) (c := a0 = 68) (by decide +kernel) (ev_k_eq ha0 (by decide)) (by decide +kernel) ?_ ?_
        · intro c4
          refine ev_r_iconst (pc := 36) (k := 1) (by decide +kernel) ?_
          refine ev_r_goto (pc := 37) (o := 4) (t := 41) (by decide +kernel) (by decide +kernel) ?_
          exact ev_r_ireturn (pc := 41) (x := 1) (v := Int32.ofInt 1) (ty := .boolean) (by decide : ev_bl 1) (by decide +kernel) (by decide +kernel) (ev_ret_bl (by decide : ev_bl 1)) rfl
        · intro c4
          refine ev_r_iload_n (pc := 24) (k := 0) (v := Int32.ofInt a0) (by decide +kernel) (by rfl) ?_
          refine ev_r_bipush (pc := 25) (k := 87) (by decide +kernel) (by decide +kernel) ?_
          refine ev_r_icmp (pc := 27) (q := .eq) (o := 9) (t := 36) (c := a0 = 87) (by decide +kernel) (ev_k_eq ha0 (by decide)) (by decide +kernel) ?_ ?_
          · intro c5
            refine ev_r_iconst (pc := 36) (k := 1) (by decide +kernel) ?_
            refine ev_r_goto (pc := 37) (o := 4) (t := 41) (by decide +kernel) (by decide +kernel) ?_
            exact ev_r_ireturn (pc := 41) (x := 1) (v := Int32.ofInt 1) (ty := .boolean) (by decide : ev_bl 1) (by decide +kernel) (by decide +kernel) (ev_ret_bl (by decide : ev_bl 1)) rfl
          · intro c5
            refine ev_r_iload_n (pc := 30) (k := 0) (v := Int32.ofInt a0) (by decide +kernel) (by rfl) ?_
            refine ev_r_bipush (pc := 31) (k := 83) (by decide +kernel) (by decide +kernel) ?_
            refine ev_r_icmp (pc := 33) (q := .ne) (o := 7) (t := 40) (c := a0 ≠ 83) (by decide +kernel) (ev_k_ne ha0 (by decide)) (by decide +kernel) ?_ ?_
            · intro c6
              refine ev_r_iconst (pc := 40) (k := 0) (by decide +kernel) ?_
              exact ev_r_ireturn (pc := 41) (x := 0) (v := Int32.ofInt 0) (ty := .boolean) (by decide : ev_bl 0) (by decide +kernel) (by decide +kernel) (ev_ret_bl (by decide : ev_bl 0)) rfl
            · intro c6
              refine ev_r_iconst (pc := 36) (k := 1) (by decide +kernel) ?_
              refine ev_r_goto (pc := 37) (o := 4) (t := 41) (by decide +kernel) (by decide +kernel) ?_
              exact ev_r_ireturn (pc := 41) (x := 1) (v := Int32.ofInt 1) (ty := .boolean) (by decide : ev_bl 1) (by decide +kernel) (by decide +kernel) (ev_ret_bl (by decide : ev_bl 1)) rfl
/-- MendBench.kindLow(I)J -/
def jm_217 (Q : Nat) (a0 : Int) (S : ev_St) : Option ((Int64) × ev_St) := if a0 = 68 ∨ a0 = 87 then (some ((-287948905469967360), S)) else (if a0 = 100 ∨ a0 = 119 then (some ((287948901175001088), S)) else (if a0 = 115 then (some ((4294968320), S)) else (some ((-8589934592), S))))
theorem jt_217 (d : Nat) (hd : 1 ≤ d) (Q : Nat) (a0 : Int) (ha0 : ev_rng a0) (S : ev_St) (x : Int64) (S' : ev_St) (hJ : jm_217 Q a0 S = some (x, S')) : ev_Ref d 217 [.int (Int32.ofInt a0)] S (ev_eL x) S' (ev_PU x) := by
  obtain ⟨d, rfl⟩ : ∃ e, d = e + 1 := ⟨d - 1, by omega⟩
  refine ev_ref_of (P := ev_PU) (lv := [(0, .int (Int32.ofInt a0))]) (by decide +kernel) (by (try simp only [ev_sum, ev_nv_cat]); first | done | rfl) (by (try simp only [lv_args, ev_nv_cat]); first | done | rfl) ?_ x S' hJ
  unfold jm_217
  refine ev_r_iload_n (pc := 0) (k := 0) (v := Int32.ofInt a0) (by decide +kernel) (by rfl) ?_
  refine ev_r_ite ?_ ?_
  · intro c1
    refine ev_r_sw (pc := 1) (i := (.lookupswitch 63 #[(68, 59), (87, 59), (100, 51), (115, 55), (119, 51)])) (len := 51) (pc' := 60) (by decide +kernel) (by rcases c1 with e | e <;> (rw [e]; rw [ev_pure_lsw]; exact ev_lsw_c (o := 59) (by decide) (by decide +kernel) (by decide +kernel) (by decide +kernel))) ?_
    refine ev_r_ldc2 (pc := 60) (y := 389) (k := -287948905469967360) (by decide +kernel) (by decide +kernel) ?_
    exact ev_r_lreturn (pc := 63) (x := (-287948905469967360)) trivial (by decide +kernel) (by decide +kernel) rfl
  · intro c1
    refine ev_r_ite ?_ ?_
    · intro c2
      refine ev_r_sw (pc := 1) (i := (.lookupswitch 63 #[(68, 59), (87, 59), (100, 51), (115, 55), (119, 51)])) (len := 51) (pc' := 52) (by decide +kernel) (by rcases c2 with e | e <;> (rw [e]; rw [ev_pure_lsw]; exact ev_lsw_c (o := 51) (by decide) (by decide +kernel) (by decide +kernel) (by decide +kernel))) ?_
      refine ev_r_ldc2 (pc := 52) (y := 385) (k := 287948901175001088) (by decide +kernel) (by decide +kernel) ?_
      exact ev_r_lreturn (pc := 55) (x := (287948901175001088)) trivial (by decide +kernel) (by decide +kernel) rfl
    · intro c2
      refine ev_r_ite ?_ ?_
      · intro c3
        refine ev_r_sw (pc := 1) (i := (.lookupswitch 63 #[(68, 59), (87, 59), (100, 51), (115, 55), (119, 51)])) (len := 51) (pc' := 56) (by decide +kernel) (by rw [c3]; rw [ev_pure_lsw]; exact ev_lsw_c (o := 55) (by decide) (by decide +kernel) (by decide +kernel) (by decide +kernel)) ?_
        refine ev_r_ldc2 (pc := 56) (y := 387) (k := 4294968320) (by decide +kernel) (by decide +kernel) ?_
        exact ev_r_lreturn (pc := 59) (x := (4294968320)) trivial (by decide +kernel) (by decide +kernel) rfl
      · intro c3
        refine ev_r_sw (pc := 1) (i := (.lookupswitch 63 #[(68, 59), (87, 59), (100, 51), (115, 55), (119, 51)])) (len := 51) (pc' := 64) (by decide +kernel) (by rw [ev_pure_lsw]; exact ev_lsw_c (o := 63) ha0 (by decide +kernel) (by show Op.lookupswitch.offset [(68, 59), (87, 59), (100, 51), (115, 55), (119, 51)] 63 a0 = 63; rw [Op.lookupswitch.offset_cons, if_neg (by omega), Op.lookupswitch.offset_cons, if_neg (by omega), Op.lookupswitch.offset_cons, if_neg (by omega), Op.lookupswitch.offset_cons, if_neg (by omega), Op.lookupswitch.offset_cons, if_neg (by omega), Op.lookupswitch.offset_nil]) (by decide +kernel)) ?_
        refine ev_r_ldc2 (pc := 64) (y := 391) (k := -8589934592) (by decide +kernel) (by decide +kernel) ?_
        exact ev_r_lreturn (pc := 67) (x := (-8589934592)) trivial (by decide +kernel) (by decide +kernel) rfl
/-- MendBench.kindHigh(I)J -/
def jm_218 (Q : Nat) (a0 : Int) (S : ev_St) : Option ((Int64) × ev_St) := if a0 = 87 then (some ((8646911290859585537), S)) else (if a0 = 100 ∨ a0 = 115 then (some ((Int64.ofNat ((0 : Fin 2) : Nat)), S)) else (if a0 = 119 then (some ((576460745995190270), S)) else (some ((9223372036854775807), S))))
theorem jt_218 (d : Nat) (hd : 1 ≤ d) (Q : Nat) (a0 : Int) (ha0 : ev_rng a0) (S : ev_St) (x : Int64) (S' : ev_St) (hJ : jm_218 Q a0 S = some (x, S')) : ev_Ref d 218 [.int (Int32.ofInt a0)] S (ev_eL x) S' (ev_PU x) := by
  obtain ⟨d, rfl⟩ : ∃ e, d = e + 1 := ⟨d - 1, by omega⟩
  refine ev_ref_of (P := ev_PU) (lv := [(0, .int (Int32.ofInt a0))]) (by decide +kernel) (by (try simp only [ev_sum, ev_nv_cat]); first | done | rfl) (by (try simp only [lv_args, ev_nv_cat]); first | done | rfl) ?_ x S' hJ
  unfold jm_218
  refine ev_r_iload_n (pc := 0) (k := 0) (v := Int32.ofInt a0) (by decide +kernel) (by rfl) ?_
  refine ev_r_ite ?_ ?_
  · intro c1
    refine ev_r_sw (pc := 1) (i := (.lookupswitch 53 #[(87, 49), (100, 43), (115, 43), (119, 45)])) (len := 43) (pc' := 50) (by decide +kernel) (by rw [c1]; rw [ev_pure_lsw]; exact ev_lsw_c (o := 49) (by decide) (by decide +kernel) (by decide +kernel) (by decide +kernel)) ?_
    refine ev_r_ldc2 (pc := 50) (y := 395) (k := 8646911290859585537) (by decide +kernel) (by decide +kernel) ?_
    exact ev_r_lreturn (pc := 53) (x := (8646911290859585537)) trivial (by decide +kernel) (by decide +kernel) rfl
  · intro c1
    refine ev_r_ite ?_ ?_
    · intro c2
      refine ev_r_sw (pc := 1) (i := (.lookupswitch 53 #[(87, 49), (100, 43), (115, 43), (119, 45)])) (len := 43) (pc' := 44) (by decide +kernel) (by rcases c2 with e | e <;> (rw [e]; rw [ev_pure_lsw]; exact ev_lsw_c (o := 43) (by decide) (by decide +kernel) (by decide +kernel) (by decide +kernel))) ?_
      refine ev_r_lconst (pc := 44) (c := 0) (by decide +kernel) ?_
      exact ev_r_lreturn (pc := 45) (x := (Int64.ofNat ((0 : Fin 2) : Nat))) trivial (by decide +kernel) (by decide +kernel) rfl
    · intro c2
      refine ev_r_ite ?_ ?_
      · intro c3
        refine ev_r_sw (pc := 1) (i := (.lookupswitch 53 #[(87, 49), (100, 43), (115, 43), (119, 45)])) (len := 43) (pc' := 46) (by decide +kernel) (by rw [c3]; rw [ev_pure_lsw]; exact ev_lsw_c (o := 45) (by decide) (by decide +kernel) (by decide +kernel) (by decide +kernel)) ?_
        refine ev_r_ldc2 (pc := 46) (y := 393) (k := 576460745995190270) (by decide +kernel) (by decide +kernel) ?_
        exact ev_r_lreturn (pc := 49) (x := (576460745995190270)) trivial (by decide +kernel) (by decide +kernel) rfl
      · intro c3
        refine ev_r_sw (pc := 1) (i := (.lookupswitch 53 #[(87, 49), (100, 43), (115, 43), (119, 45)])) (len := 43) (pc' := 54) (by decide +kernel) (by rw [ev_pure_lsw]; exact ev_lsw_c (o := 53) ha0 (by decide +kernel) (by show Op.lookupswitch.offset [(87, 49), (100, 43), (115, 43), (119, 45)] 53 a0 = 53; rw [Op.lookupswitch.offset_cons, if_neg (by omega), Op.lookupswitch.offset_cons, if_neg (by omega), Op.lookupswitch.offset_cons, if_neg (by omega), Op.lookupswitch.offset_cons, if_neg (by omega), Op.lookupswitch.offset_nil]) (by decide +kernel)) ?_
        refine ev_r_ldc2 (pc := 54) (y := 397) (k := 9223372036854775807) (by decide +kernel) (by decide +kernel) ?_
        exact ev_r_lreturn (pc := 57) (x := (9223372036854775807)) trivial (by decide +kernel) (by decide +kernel) rfl
/-- MendBench.isPlainBehindSlash(I)Z -/
def jm_211 (Q : Nat) (a0 : Int) (S : ev_St) : Option ((Int) × ev_St) := ev_jn (fun  (s3 : ev_St) => ev_jn (fun  (s6 : ev_St) => ev_jn (fun  (s9 : ev_St) => if a0 ≤ 122 then (some (0, s9)) else (if 126 < a0 then (some (0, s9)) else (some (1, s9)))) fun K36 => if a0 ≤ 90 then (K36  s6) else (if a0 < 97 then (some (1, s6)) else (K36  s6))) fun K24 => if a0 ≤ 57 then (K24  s3) else (if a0 < 65 then (some (1, s3)) else (K24  s3))) fun K12 => if a0 ≤ 32 then (K12  S) else (if a0 < 48 then (some (1, S)) else (K12  S))
theorem jt_211 (d : Nat) (hd : 1 ≤ d) (Q : Nat) (a0 : Int) (ha0 : ev_rng a0) (S : ev_St) (x : Int) (S' : ev_St) (hJ : jm_211 Q a0 S = some (x, S')) : ev_Ref d 211 [.int (Int32.ofInt a0)] S (ev_eI x) S' (ev_bl x) := by
  obtain ⟨d, rfl⟩ : ∃ e, d = e + 1 := ⟨d - 1, by omega⟩
  refine ev_ref_of (P := ev_bl) (lv := [(0, .int (Int32.ofInt a0))]) (by decide +kernel) (by (try simp only [ev_sum, ev_nv_cat]); first | done | rfl) (by (try simp only [lv_args, ev_nv_cat]); first | done | rfl) ?_ x S' hJ
  unfold jm_211
  refine ev_r_iload_n (pc := 0) (k := 0) (v := Int32.ofInt a0) (by decide +kernel) (by rfl) ?_
  refine ev_r_bipush (pc := 1) (k := 32) (by decide +kernel) (by decide +kernel) ?_
  refine ev_r_jn (Q := fun K => ∀ (s3 : ev_St) (w1 : List (Nat × Value)), ev_lk w1 0 = some (.int (Int32.ofInt a0)) → ev_w none (ev_Mof 211) d 12 w1 [] s3 (K  s3) ev_eI ev_bl) ?_ ?_
  · intro  s3 w1 e2
    refine ev_r_iload_n (pc := 12) (k := 0) (v := Int32.ofInt a0) (by decide +kernel) (by exact e2) ?_
    refine ev_r_bipush (pc := 13) (k := 57) (by decide +kernel) (by decide +kernel) ?_
    refine ev_r_jn (Q := fun K => ∀ (s6 : ev_St) (w4 : List (Nat × Value)), ev_lk w4 0 = some (.int (Int32.ofInt a0)) → ev_w none (ev_Mof 211) d 24 w4 [] s6 (K  s6) ev_eI ev_bl) ?_ ?_
    · intro  s6 w4 e5
      refine ev_r_iload_n (pc := 24) (k := 0) (v := Int32.ofInt a0) (by decide +kernel) (by exact e5) ?_
      refine ev_r_bipush (pc := 25) (k := 90) (by decide +kernel) (by decide +kernel) ?_
      refine ev_r_jn (Q := fun K => ∀ (s9 : ev_St) (w7 : List (Nat × Value)), ev_lk w7 0 = some (.int (Int32.ofInt a0)) → ev_w none (ev_Mof 211) d 36 w7 [] s9 (K  s9) ev_eI ev_bl) ?_ ?_
      · intro  s9 w7 e8
        refine ev_r_iload_n (pc := 36) (k := 0) (v := Int32.ofInt a0) (by decide +kernel) (by exact e8) ?_
        refine ev_r_bipush (pc := 37) (k := 122) (by decide +kernel) (by decide +kernel) ?_
        refine ev_r_icmp (pc := 39) (q := .le) (o := 13) (t := 52) (c := a0 ≤ 122) (by decide +kernel) (ev_k_le ha0 (by decide)) (by decide +kernel) ?_ ?_
        · intro c10
          refine ev_r_iconst (pc := 52) (k := 0) (by decide +kernel) ?_
          exact ev_r_ireturn (pc := 53) (x := 0) (v := Int32.ofInt 0) (ty := .boolean) (by decide : ev_bl 0) (by decide +kernel) (by decide +kernel) (ev_ret_bl (by decide : ev_bl 0)) rfl
        · intro c10
          refine ev_r_iload_n (pc := 42) (k := 0) (v := Int32.ofInt a0) (by decide +kernel) (by exact e8) ?_
          refine ev_r_bipush (pc := 43) (k := 126) (by decide +kernel) (by decide +kernel) ?_
          refine ev_r_icmp (pc := 45) (q := .gt) (o := 7) (t := 52) (c := 126 < a0) (by decide +kernel) (ev_k_gt ha0 (by decide)) (by decide +kernel) ?_ ?_
          · intro c11
            refine ev_r_iconst (pc := 52) (k := 0) (by decide +kernel) ?_
            exact ev_r_ireturn (pc := 53) (x := 0) (v := Int32.ofInt 0) (ty := .boolean) (by decide : ev_bl 0) (by decide +kernel) (by decide +kernel) (ev_ret_bl (by decide : ev_bl 0)) rfl
          · intro c11
            refine ev_r_iconst (pc := 48) (k := 1) (by decide +kernel) ?_
            refine ev_r_goto (pc := 49) (o := 4) (t := 53) (by decide +kernel) (by decide +kernel) ?_
            exact ev_r_ireturn (pc := 53) (x := 1) (v := Int32.ofInt 1) (ty := .boolean) (by decide : ev_bl 1) (by decide +kernel) (by decide +kernel) (ev_ret_bl (by decide : ev_bl 1)) rfl
      · intro K36 hK36
        refine ev_r_icmp (pc := 27) (q := .le) (o := 9) (t := 36) (c := a0 ≤ 90) (by decide +kernel) (ev_k_le ha0 (by decide)) (by decide +kernel) ?_ ?_
        · intro c12
          exact hK36  s6 _ (by exact e5)
        · intro c12
          refine ev_r_iload_n (pc := 30) (k := 0) (v := Int32.ofInt a0) (by decide +kernel) (by exact e5) ?_
          refine ev_r_bipush (pc := 31) (k := 97) (by decide +kernel) (by decide +kernel) ?_
          refine ev_r_icmp (pc := 33) (q := .lt) (o := 15) (t := 48) (c := a0 < 97) (by decide +kernel) (ev_k_lt ha0 (by decide)) (by decide +kernel) ?_ ?_
          · intro c13
            refine ev_r_iconst (pc := 48) (k := 1) (by decide +kernel) ?_
            refine ev_r_goto (pc := 49) (o := 4) (t := 53) (by decide +kernel) (by decide +kernel) ?_
            exact ev_r_ireturn (pc := 53) (x := 1) (v := Int32.ofInt 1) (ty := .boolean) (by decide : ev_bl 1) (by decide +kernel) (by decide +kernel) (ev_ret_bl (by decide : ev_bl 1)) rfl
          · intro c13
            exact hK36  s6 _ (by exact e5)
    · intro K24 hK24
      refine ev_r_icmp (pc := 15) (q := .le) (o := 9) (t := 24) (c := a0 ≤ 57) (by decide +kernel) (ev_k_le ha0 (by decide)) (by decide +kernel) ?_ ?_
      · intro c14
        exact hK24  s3 _ (by exact e2)
      · intro c14
        refine ev_r_iload_n (pc := 18) (k := 0) (v := Int32.ofInt a0) (by decide +kernel) (by exact e2) ?_
        refine ev_r_bipush (pc := 19) (k := 65) (by decide +kernel) (by decide +kernel) ?_
        refine ev_r_icmp (pc := 21) (q := .lt) (o := 27) (t := 48) (c := a0 < 65) (by decide +kernel) (ev_k_lt ha0 (by decide)) (by decide +kernel) ?_ ?_
        · intro c15
          refine ev_r_iconst (pc := 48) (k := 1) (by decide +kernel) ?_
          refine ev_r_goto (pc := 49) (o := 4) (t := 53) (by decide +kernel) (by decide +kernel) ?_
          exact ev_r_ireturn (pc := 53) (x := 1) (v := Int32.ofInt 1) (ty := .boolean) (by decide : ev_bl 1) (by decide +kernel) (by decide +kernel) (ev_ret_bl (by decide : ev_bl 1)) rfl
        · intro c15
          exact hK24  s3 _ (by exact e2)
  · intro K12 hK12
    refine ev_r_icmp (pc := 3) (q := .le) (o := 9) (t := 12) (c := a0 ≤ 32) (by decide +kernel) (ev_k_le ha0 (by decide)) (by decide +kernel) ?_ ?_
    · intro c16
      exact hK12  S _ (by rfl)
    · intro c16
      refine ev_r_iload_n (pc := 6) (k := 0) (v := Int32.ofInt a0) (by decide +kernel) (by rfl) ?_
      refine ev_r_bipush (pc := 7) (k := 48) (by decide +kernel) (by decide +kernel) ?_
      refine ev_r_icmp (pc := 9) (q := .lt) (o := 39) (t := 48) (c := a0 < 48) (by decide +kernel) (ev_k_lt ha0 (by decide)) (by decide +kernel) ?_ ?_
      · intro c17
        refine ev_r_iconst (pc := 48) (k := 1) (by decide +kernel) ?_
        refine ev_r_goto (pc := 49) (o := 4) (t := 53) (by decide +kernel) (by decide +kernel) ?_
        exact ev_r_ireturn (pc := 53) (x := 1) (v := Int32.ofInt 1) (ty := .boolean) (by decide : ev_bl 1) (by decide +kernel) (by decide +kernel) (ev_ret_bl (by decide : ev_bl 1)) rfl
      · intro c17
        exact hK12  S _ (by rfl)
/-- MendBench$ClassReader.readSingle()I -/
def jm_27 (Q : Nat)  (S : ev_St) : Option ((Int) × ev_St) := ev_b (S.2.2.1 6 8) fun r1 => ev_b (S.1 6 9) fun x2 => ev_if (r1 ≠ 0) (ev_bd (jm_151 Q ((r1 - 1)) x2 S) fun x5 s4 => ev_b (s4.2.2.1 6 8) fun r6 => ev_b (s4.1 6 9) fun x7 => ev_ck (x7 + 1) fun x8 => ev_if (r6 ≠ 0) (ev_bd (jm_151 Q ((r6 - 1)) x8 s4) fun x11 s10 => if x5 = 91 then (some ((-1), s10)) else (if x5 = 93 then (some ((-1), s10)) else (if x5 = 45 then (some ((-1), s10)) else (ev_jn (fun  (s19 : ev_St) => ev_b (s19.1 6 9) fun x20 => ev_ck (x20 + 1) fun x21 => ev_b (ev_pI s19 6 9 x21) fun s22 => if x5 = 92 then (ev_b (s22.1 6 9) fun x24 => ev_ck (x24 + 1) fun x25 => ev_b (ev_pI s22 6 9 x25) fun s26 => if x11 ≠ 110 then (ev_bd (jm_211 Q x11 s26) fun x29 s28 => if x29 = 0 then (some ((-1), s28)) else (some (x11, s28))) else (some (10, s26))) else (some (x5, s22))) fun K58 => if x5 ≠ 38 then (K58  s10) else (if x11 ≠ 38 then (K58  s10) else (some ((-1), s10))))))))
theorem jt_27 (d : Nat) (hd : 2 ≤ d) (Q : Nat)   (S : ev_St) (x : Int) (S' : ev_St) (hJ : jm_27 Q  S = some (x, S')) : ev_Ref d 27 [.ref 6] S (ev_eI x) S' (ev_rng x) := by
  obtain ⟨d, rfl⟩ : ∃ e, d = e + 1 := ⟨d - 1, by omega⟩
  refine ev_ref_of (P := ev_rng) (lv := [(0, .ref 6)]) (by decide +kernel) (by (try simp only [ev_sum, ev_nv_cat]); first | done | rfl) (by (try simp only [lv_args, ev_nv_cat]); first | done | rfl) ?_ x S' hJ
  unfold jm_27
  refine ev_r_aload_n (pc := 0) (k := 0) (v := .ref 6) trivial (by decide +kernel) (by rfl) ?_
  refine ev_r_getR (pc := 1) (y := 35) (ci := 1) (f := 8) (fin := 0) (t := 10) (by decide +kernel) (by decide +kernel) (by exact ev_ob_6) rfl rfl ?_
  intro r1 hr1
  have hr1 : r1 = 0 ∨ ev_isOb (r1 - 1) 10 = true := hr1
  refine ev_r_aload_n (pc := 4) (k := 0) (v := .ref 6) trivial (by decide +kernel) (by rfl) ?_
  refine ev_r_getI (pc := 5) (y := 39) (ci := 1) (f := 9) (fin := 0) (by decide +kernel) (by decide +kernel) (by exact ev_ob_6) rfl ?_
  intro x2 hx2
  refine ev_r_chk ?_
  intro c3
  refine ev_r_dr (r := r1) (fun v => [.int (Int32.ofInt x2), v]) c3 ?_
  refine ev_r_virt (pc := 8) (y := 62) (mi := 151) (na := 1) (k := (r1 - 1)) (as := [.int (Int32.ofInt x2)]) (rest := []) (encc := ev_oI) (Q := ev_rng) (fun x S1 h => jt_151 d (by omega) Q ((r1 - 1)) x2 (hr1.resolve_left c3) hx2 S x S1 h) (by exact (hr1.resolve_left c3)) (by decide +kernel) (by decide +kernel) (by decide +kernel) (by decide +kernel) rfl (by (try simp only [ev_sum, ev_nv_cat]); first | done | rfl) ?_
  intro x5 s4 hx5
  show ev_w _ _ _ _ _ [.int (Int32.ofInt x5)] _ _ _ _
  refine ev_r_istore_n (pc := 11) (k := 1) (by decide +kernel) (by decide +kernel) rfl ?_
  refine ev_r_aload_n (pc := 12) (k := 0) (v := .ref 6) trivial (by decide +kernel) (by exact (ev_lk_st1 (by rfl) (by decide) rfl)) ?_
  refine ev_r_getR (pc := 13) (y := 35) (ci := 1) (f := 8) (fin := 0) (t := 10) (by decide +kernel) (by decide +kernel) (by exact ev_ob_6) rfl rfl ?_
  intro r6 hr6
  have hr6 : r6 = 0 ∨ ev_isOb (r6 - 1) 10 = true := hr6
  refine ev_r_aload_n (pc := 16) (k := 0) (v := .ref 6) trivial (by decide +kernel) (by exact (ev_lk_st1 (by rfl) (by decide) rfl)) ?_
  refine ev_r_getI (pc := 17) (y := 39) (ci := 1) (f := 9) (fin := 0) (by decide +kernel) (by decide +kernel) (by exact ev_ob_6) rfl ?_
  intro x7 hx7
  refine ev_r_iconst (pc := 20) (k := 1) (by decide +kernel) ?_
  refine ev_r_iadd (pc := 21) (by decide +kernel) ?_
  intro x8 hx8
  refine ev_r_chk ?_
  intro c9
  refine ev_r_dr (r := r6) (fun v => [.int (Int32.ofInt x8), v]) c9 ?_
  refine ev_r_virt (pc := 22) (y := 62) (mi := 151) (na := 1) (k := (r6 - 1)) (as := [.int (Int32.ofInt x8)]) (rest := []) (encc := ev_oI) (Q := ev_rng) (fun x S1 h => jt_151 d (by omega) Q ((r6 - 1)) x8 (hr6.resolve_left c9) hx8 s4 x S1 h) (by exact (hr6.resolve_left c9)) (by decide +kernel) (by decide +kernel) (by decide +kernel) (by decide +kernel) rfl (by (try simp only [ev_sum, ev_nv_cat]); first | done | rfl) ?_
  intro x11 s10 hx11
  show ev_w _ _ _ _ _ [.int (Int32.ofInt x11)] _ _ _ _
  refine ev_r_istore_n (pc := 25) (k := 2) (by decide +kernel) (by decide +kernel) rfl ?_
  refine ev_r_iload_n (pc := 26) (k := 1) (v := Int32.ofInt x5) (by decide +kernel) (by exact (ev_lk_st1 ev_lk_st1_self (by decide) rfl)) ?_
  refine ev_r_bipush (pc := 27) (k := 91) (by decide +kernel) (by decide +kernel) ?_
  refine ev_r_icmp (pc := 29) (q := .eq) (o := 27) (t := 56) (c := x5 = 91) (by decide +kernel) (ev_k_eq hx5 (by decide)) (by decide +kernel) ?_ ?_
  · intro c12
    refine ev_r_iconst (pc := 56) (k := -1) (by decide +kernel) ?_
    exact ev_r_ireturn (pc := 57) (x := (-1)) (v := Int32.ofInt ((-1))) (ty := .int) (by decide) (by decide +kernel) (by decide +kernel) rfl rfl
  · intro c12
    refine ev_r_iload_n (pc := 32) (k := 1) (v := Int32.ofInt x5) (by decide +kernel) (by exact (ev_lk_st1 ev_lk_st1_self (by decide) rfl)) ?_
    refine ev_r_bipush (pc := 33) (k := 93) (by decide +kernel) (by decide +kernel) ?_
    refine ev_r_icmp (pc := 35) (q := .eq) (o := 21) (t := 56) (c := x5 = 93) (by decide +kernel) (ev_k_eq hx5 (by decide)) (by decide +kernel) ?_ ?_
    · intro c13
      refine ev_r_iconst (pc := 56) (k := -1) (by decide +kernel) ?_
      exact ev_r_ireturn (pc := 57) (x := (-1)) (v := Int32.ofInt ((-1))) (ty := .int) (by decide) (by decide +kernel) (by decide +kernel) rfl rfl
    · intro c13
      refine ev_r_iload_n (pc := 38) (k := 1) (v := Int32.ofInt x5) (by decide +kernel) (by exact (ev_lk_st1 ev_lk_st1_self (by decide) rfl)) ?_
      refine ev_r_bipush (pc := 39) (k := 45) (by decide +kernel) (by decide +kernel) ?_
      refine ev_r_icmp (pc := 41) (q := .eq) (o := 15) (t := 56) (c := x5 = 45) (by decide +kernel) (ev_k_eq hx5 (by decide)) (by decide +kernel) ?_ ?_
      · intro c14
        refine ev_r_iconst (pc := 56) (k := -1) (by decide +kernel) ?_
        exact ev_r_ireturn (pc := 57) (x := (-1)) (v := Int32.ofInt ((-1))) (ty := .int) (by decide) (by decide +kernel) (by decide +kernel) rfl rfl
      · intro c14
        refine ev_r_iload_n (pc := 44) (k := 1) (v := Int32.ofInt x5) (by decide +kernel) (by exact (ev_lk_st1 ev_lk_st1_self (by decide) rfl)) ?_
        refine ev_r_bipush (pc := 45) (k := 38) (by decide +kernel) (by decide +kernel) ?_
        refine ev_r_jn (Q := fun K => ∀ (s19 : ev_St) (w15 : List (Nat × Value)), ev_lk w15 0 = some (.ref 6) → ev_lk w15 1 = some (.int (Int32.ofInt x5)) → ev_lk w15 2 = some (.int (Int32.ofInt x11)) → ev_w none (ev_Mof 27) d 58 w15 [] s19 (K  s19) ev_eI ev_rng) ?_ ?_
        · intro  s19 w15 e16 e17 e18
          refine ev_r_aload_n (pc := 58) (k := 0) (v := .ref 6) trivial (by decide +kernel) (by exact e16) ?_
          refine ev_r_dup (pc := 59) rfl (by decide +kernel) ?_
          refine ev_r_getI (pc := 60) (y := 39) (ci := 1) (f := 9) (fin := 0) (by decide +kernel) (by decide +kernel) (by exact ev_ob_6) rfl ?_
          intro x20 hx20
          refine ev_r_iconst (pc := 63) (k := 1) (by decide +kernel) ?_
          refine ev_r_iadd (pc := 64) (by decide +kernel) ?_
          intro x21 hx21
          refine ev_r_putI (pc := 65) (y := 39) (ci := 1) (f := 9) hx21 (by decide +kernel) (by decide +kernel) (by exact ev_ob_6) rfl rfl ?_
          intro s22
          refine ev_r_iload_n (pc := 68) (k := 1) (v := Int32.ofInt x5) (by decide +kernel) (by exact e17) ?_
          refine ev_r_bipush (pc := 69) (k := 92) (by decide +kernel) (by decide +kernel) ?_
          refine ev_r_icmp (pc := 71) (q := .eq) (o := 5) (t := 76) (c := x5 = 92) (by decide +kernel) (ev_k_eq hx5 (by decide)) (by decide +kernel) ?_ ?_
          · intro c23
            refine ev_r_aload_n (pc := 76) (k := 0) (v := .ref 6) trivial (by decide +kernel) (by exact e16) ?_
            refine ev_r_dup (pc := 77) rfl (by decide +kernel) ?_
            refine ev_r_getI (pc := 78) (y := 39) (ci := 1) (f := 9) (fin := 0) (by decide +kernel) (by decide +kernel) (by exact ev_ob_6) rfl ?_
            intro x24 hx24
            refine ev_r_iconst (pc := 81) (k := 1) (by decide +kernel) ?_
            refine ev_r_iadd (pc := 82) (by decide +kernel) ?_
            intro x25 hx25
            refine ev_r_putI (pc := 83) (y := 39) (ci := 1) (f := 9) hx25 (by decide +kernel) (by decide +kernel) (by exact ev_ob_6) rfl rfl ?_
            intro s26
            refine ev_r_iload_n (pc := 86) (k := 2) (v := Int32.ofInt x11) (by decide +kernel) (by exact e18) ?_
            refine ev_r_bipush (pc := 87) (k := 110) (by decide +kernel) (by decide +kernel) ?_
            refine ev_r_icmp (pc := 89) (q := .ne) (o := 8) (t := 97) (c := x11 ≠ 110) (by decide +kernel) (ev_k_ne hx11 (by decide)) (by decide +kernel) ?_ ?_
            · intro c27
              refine ev_r_iload_n (pc := 97) (k := 2) (v := Int32.ofInt x11) (by decide +kernel) (by exact e18) ?_
              refine ev_r_stat (pc := 98) (y := 117) (kind := 5) (mi := 211) (na := 1) (as := [.int (Int32.ofInt x11)]) (rest := []) (encc := ev_oI) (Q := ev_bl) (fun x S1 h => jt_211 d (by omega) Q x11 hx11 s26 x S1 h) (Or.inr (Or.inl rfl)) (by decide +kernel) (by decide +kernel) (by decide +kernel) (by decide +kernel) rfl (by (try simp only [ev_sum, ev_nv_cat]); first | done | rfl) ?_
              intro x29 s28 hx29
              replace hx29 := ev_bl_rng hx29
              show ev_w _ _ _ _ _ [.int (Int32.ofInt x29)] _ _ _ _
              refine ev_r_if (pc := 101) (q := .eq) (o := 7) (t := 108) (c := x29 = 0) (by decide +kernel) (ev_k_eq hx29 ev_rng0) (by decide +kernel) ?_ ?_
              · intro c30
                refine ev_r_iconst (pc := 108) (k := -1) (by decide +kernel) ?_
                exact ev_r_ireturn (pc := 109) (x := (-1)) (v := Int32.ofInt ((-1))) (ty := .int) (by decide) (by decide +kernel) (by decide +kernel) rfl rfl
              · intro c30
                refine ev_r_iload_n (pc := 104) (k := 2) (v := Int32.ofInt x11) (by decide +kernel) (by exact e18) ?_
                refine ev_r_goto (pc := 105) (o := 4) (t := 109) (by decide +kernel) (by decide +kernel) ?_
                exact ev_r_ireturn (pc := 109) (x := x11) (v := Int32.ofInt x11) (ty := .int) hx11 (by decide +kernel) (by decide +kernel) rfl rfl
            · intro c27
              refine ev_r_bipush (pc := 92) (k := 10) (by decide +kernel) (by decide +kernel) ?_
              refine ev_r_goto (pc := 94) (o := 15) (t := 109) (by decide +kernel) (by decide +kernel) ?_
              exact ev_r_ireturn (pc := 109) (x := 10) (v := Int32.ofInt 10) (ty := .int) (by decide) (by decide +kernel) (by decide +kernel) rfl rfl
          · intro c23
            refine ev_r_iload_n (pc := 74) (k := 1) (v := Int32.ofInt x5) (by decide +kernel) (by exact e17) ?_
            exact ev_r_ireturn (pc := 75) (x := x5) (v := Int32.ofInt x5) (ty := .int) hx5 (by decide +kernel) (by decide +kernel) rfl rfl
        · intro K58 hK58
          refine ev_r_icmp (pc := 47) (q := .ne) (o := 11) (t := 58) (c := x5 ≠ 38) (by decide +kernel) (ev_k_ne hx5 (by decide)) (by decide +kernel) ?_ ?_
          · intro c31
            exact hK58  s10 _ (by exact (ev_l1 (ev_lk_st1 (by rfl) (by decide) rfl) (by decide) (by decide))) (by exact (ev_lk_st1 ev_lk_st1_self (by decide) rfl)) (by exact ev_lk_st1_self)
          · intro c31
            refine ev_r_iload_n (pc := 50) (k := 2) (v := Int32.ofInt x11) (by decide +kernel) (by exact ev_lk_st1_self) ?_
            refine ev_r_bipush (pc := 51) (k := 38) (by decide +kernel) (by decide +kernel) ?_
            refine ev_r_icmp (pc := 53) (q := .ne) (o := 5) (t := 58) (c := x11 ≠ 38) (by decide +kernel) (ev_k_ne hx11 (by decide)) (by decide +kernel) ?_ ?_
            · intro c32
              exact hK58  s10 _ (by exact (ev_l1 (ev_lk_st1 (by rfl) (by decide) rfl) (by decide) (by decide))) (by exact (ev_lk_st1 ev_lk_st1_self (by decide) rfl)) (by exact ev_lk_st1_self)
            · intro c32
              refine ev_r_iconst (pc := 56) (k := -1) (by decide +kernel) ?_
              exact ev_r_ireturn (pc := 57) (x := (-1)) (v := Int32.ofInt ((-1))) (ty := .int) (by decide) (by decide +kernel) (by decide +kernel) rfl rfl
/-- MendBench.isSign(I)Z -/
def jm_207 (Q : Nat) (a0 : Int) (S : ev_St) : Option ((Int) × ev_St) := if a0 = 10 then (some (1, S)) else (if a0 < 32 then (some (0, S)) else (if 126 < a0 then (some (0, S)) else (some (1, S))))
theorem jt_207 (d : Nat) (hd : 1 ≤ d) (Q : Nat) (a0 : Int) (ha0 : ev_rng a0) (S : ev_St) (x : Int) (S' : ev_St) (hJ : jm_207 Q a0 S = some (x, S')) : ev_Ref d 207 [.int (Int32.ofInt a0)] S (ev_eI x) S' (ev_bl x) := by
  obtain ⟨d, rfl⟩ : ∃ e, d = e + 1 := ⟨d - 1, by omega⟩
  refine ev_ref_of (P := ev_bl) (lv := [(0, .int (Int32.ofInt a0))]) (by decide +kernel) (by (try simp only [ev_sum, ev_nv_cat]); first | done | rfl) (by (try simp only [lv_args, ev_nv_cat]); first | done | rfl) ?_ x S' hJ
  unfold jm_207
  refine ev_r_iload_n (pc := 0) (k := 0) (v := Int32.ofInt a0) (by decide +kernel) (by rfl) ?_
  refine ev_r_bipush (pc := 1) (k := 10) (by decide +kernel) (by decide +kernel) ?_
  refine ev_r_icmp (pc := 3) (q := .eq) (o := 15) (t := 18) (c := a0 = 10) (by decide +kernel) (ev_k_eq ha0 (by decide)) (by decide +kernel) ?_ ?_
  · intro c1
    refine ev_r_iconst (pc := 18) (k := 1) (by decide +kernel) ?_
    refine ev_r_goto (pc := 19) (o := 4) (t := 23) (by decide +kernel) (by decide +kernel) ?_
    exact ev_r_ireturn (pc := 23) (x := 1) (v := Int32.ofInt 1) (ty := .boolean) (by decide : ev_bl 1) (by decide +kernel) (by decide +kernel) (ev_ret_bl (by decide : ev_bl 1)) rfl
  · intro c1
    refine ev_r_iload_n (pc := 6) (k := 0) (v := Int32.ofInt a0) (by decide +kernel) (by rfl) ?_
    refine ev_r_bipush (pc := 7) (k := 32) (by decide +kernel) (by decide +kernel) ?_
    refine ev_r_icmp (pc := 9) (q := .lt) (o := 13) (t := 22) (c := a0 < 32) (by decide +kernel) (ev_k_lt ha0 (by decide)) (by decide +kernel) ?_ ?_
    · intro c2
      refine ev_r_iconst (pc := 22) (k := 0) (by decide +kernel) ?_
      exact ev_r_ireturn (pc := 23) (x := 0) (v := Int32.ofInt 0) (ty := .boolean) (by decide : ev_bl 0) (by decide +kernel) (by decide +kernel) (ev_ret_bl (by decide : ev_bl 0)) rfl
    · intro c2
      refine ev_r_iload_n (pc := 12) (k := 0) (v := Int32.ofInt a0) (by decide +kernel) (by rfl) ?_
      refine ev_r_bipush (pc := 13) (k := 126) (by decide +kernel) (by decide +kernel) ?_
      refine ev_r_icmp (pc := 15) (q := .gt) (o := 7) (t := 22) (c := 126 < a0) (by decide +kernel) (ev_k_gt ha0 (by decide)) (by decide +kernel) ?_ ?_
      · intro c3
        refine ev_r_iconst (pc := 22) (k := 0) (by decide +kernel) ?_
        exact ev_r_ireturn (pc := 23) (x := 0) (v := Int32.ofInt 0) (ty := .boolean) (by decide : ev_bl 0) (by decide +kernel) (by decide +kernel) (ev_ret_bl (by decide : ev_bl 0)) rfl
      · intro c3
        refine ev_r_iconst (pc := 18) (k := 1) (by decide +kernel) ?_
        refine ev_r_goto (pc := 19) (o := 4) (t := 23) (by decide +kernel) (by decide +kernel) ?_
        exact ev_r_ireturn (pc := 23) (x := 1) (v := Int32.ofInt 1) (ty := .boolean) (by decide : ev_bl 1) (by decide +kernel) (by decide +kernel) (ev_ret_bl (by decide : ev_bl 1)) rfl
/-- MendBench.foldedHigh(J)J -/
def jm_215 (Q : Nat) (a0 : Int64) (S : ev_St) : Option ((Int64) × ev_St) := ev_b (a0 &&& (134217726)) fun y1 => ev_b (ev_lshl y1 32) fun y2 => ev_b (a0 ||| y2) fun y3 => ev_b (a0 &&& (576460743713488896)) fun y4 => ev_b (ev_lushr y4 32) fun y5 => ev_b (y3 ||| y5) fun y6 => some (y6, S)
theorem jt_215 (d : Nat) (hd : 1 ≤ d) (Q : Nat) (a0 : Int64)  (S : ev_St) (x : Int64) (S' : ev_St) (hJ : jm_215 Q a0 S = some (x, S')) : ev_Ref d 215 [.long a0] S (ev_eL x) S' (ev_PU x) := by
  obtain ⟨d, rfl⟩ : ∃ e, d = e + 1 := ⟨d - 1, by omega⟩
  refine ev_ref_of (P := ev_PU) (lv := [(0, .long a0)]) (by decide +kernel) (by (try simp only [ev_sum, ev_nv_cat]); first | done | rfl) (by (try simp only [lv_args, ev_nv_cat]); first | done | rfl) ?_ x S' hJ
  unfold jm_215
  refine ev_r_lload_n (pc := 0) (k := 0) (v := a0) (by decide +kernel) (by rfl) ?_
  refine ev_r_lload_n (pc := 1) (k := 0) (v := a0) (by decide +kernel) (by rfl) ?_
  refine ev_r_ldc2 (pc := 2) (y := 381) (k := 134217726) (by decide +kernel) (by decide +kernel) ?_
  refine ev_r_toL (pc := 5) (i := .land) (len := 1) (pc' := 6) (by decide +kernel) rfl ?_
  intro y1
  refine ev_r_bipush (pc := 6) (k := 32) (by decide +kernel) (by decide +kernel) ?_
  refine ev_r_toL (pc := 8) (i := .lshl) (len := 1) (pc' := 9) (by decide +kernel) rfl ?_
  intro y2
  refine ev_r_toL (pc := 9) (i := .lor) (len := 1) (pc' := 10) (by decide +kernel) rfl ?_
  intro y3
  refine ev_r_lload_n (pc := 10) (k := 0) (v := a0) (by decide +kernel) (by rfl) ?_
  refine ev_r_ldc2 (pc := 11) (y := 383) (k := 576460743713488896) (by decide +kernel) (by decide +kernel) ?_
  refine ev_r_toL (pc := 14) (i := .land) (len := 1) (pc' := 15) (by decide +kernel) rfl ?_
  intro y4
  refine ev_r_bipush (pc := 15) (k := 32) (by decide +kernel) (by decide +kernel) ?_
  refine ev_r_toL (pc := 17) (i := .lushr) (len := 1) (pc' := 18) (by decide +kernel) rfl ?_
  intro y5
  refine ev_r_toL (pc := 18) (i := .lor) (len := 1) (pc' := 19) (by decide +kernel) rfl ?_
  intro y6
  exact ev_r_lreturn (pc := 19) (x := y6) trivial (by decide +kernel) (by decide +kernel) rfl
def jb_26_79 (Q : Nat) (x4 : Int)  (K79 : Int64 → Int64 → Int → ev_St → Option ((Int) × ev_St)) (y12 : Int64) (y13 : Int64) (x14 : Int) (s21 : ev_St) : Option ((Int) × ev_St) := ev_jn (fun  (s26 : ev_St) => ev_b (s26.1 6 10) fun x27 => ev_jn (fun (y29 : Int64) (y28 : Int64) (s31 : ev_St) => ev_bd (jm_22 Q y28 y29 s31) fun x33 s32 => ev_if (ev_bl x33) (some (x33, s32))) fun K167 => if x27 = 0 then (K167 y13 y12 s26) else (ev_bd (jm_215 Q y13 s26) fun y37 s36 => K167 y37 y12 s36)) fun K148 => if x4 < x14 then (K148  s21) else (if 128 ≤ x14 then (K148  s21) else (ev_bd (jm_207 Q x14 s21) fun x41 s40 => ev_jn (fun (y42 : Int64) (y43 : Int64) (s50 : ev_St) => ev_ck (x14 + 1) fun x51 => K79 y42 y43 x51 s50) fun K142 => if x41 = 0 then (K142 y12 y13 s40) else (ev_jn (fun (y54 : Int64) (y53 : Int64) (s60 : ev_St) => ev_b (y53 ||| y54) fun y61 => ev_jn (fun (y62 : Int64) (y64 : Int64) (y63 : Int64) (s70 : ev_St) => ev_b (y63 ||| y64) fun y71 => K142 y62 y71 s70) fun K139 => if 64 ≤ x14 then (ev_ck (x14 - 64) fun x73 => ev_b (ev_lshl ((Int64.ofNat ((1 : Fin 2) : Nat))) x73) fun y74 => K139 y61 y74 y13 s60) else (K139 y61 ((Int64.ofNat ((0 : Fin 2) : Nat))) y13 s60)) fun K117 => if 64 ≤ x14 then (K117 ((Int64.ofNat ((0 : Fin 2) : Nat))) y12 s40) else (ev_b (ev_lshl ((Int64.ofNat ((1 : Fin 2) : Nat))) x14) fun y76 => K117 y76 y12 s40))))
def jl_26_79 (Q : Nat) (x4 : Int)  : Nat → Int64 → Int64 → Int → ev_St → Option ((Int) × ev_St)
  | 0 => fun _ _ _ _ => none
  | q + 1 => jb_26_79 Q x4  (jl_26_79 Q x4  q)
theorem jbt_26_79 (d : Nat) (hd : 3 ≤ d + 1) (Q : Nat) (x4 : Int) (hx4 : ev_rng x4)   (K79 : Int64 → Int64 → Int → ev_St → Option ((Int) × ev_St)) (hK79 : ∀ (y12 : Int64), ∀ (y13 : Int64), ∀ (x14 : Int) (hx14 : ev_rng x14), ∀ (s21 : ev_St) (w15 : List (Nat × Value)), ev_lk w15 0 = some (.ref 6) → ev_lk w15 2 = some (.int (Int32.ofInt x4)) → ev_lk w15 3 = some (.long y12) → ev_lk w15 5 = some (.long y13) → ev_lk w15 7 = some (.int (Int32.ofInt x14)) → ev_w none (ev_Mof 26) d 79 w15 [] s21 (K79 y12 y13 x14 s21) ev_eI ev_bl) : ∀ (y12 : Int64), ∀ (y13 : Int64), ∀ (x14 : Int) (hx14 : ev_rng x14), ∀ (s21 : ev_St) (w15 : List (Nat × Value)), ev_lk w15 0 = some (.ref 6) → ev_lk w15 2 = some (.int (Int32.ofInt x4)) → ev_lk w15 3 = some (.long y12) → ev_lk w15 5 = some (.long y13) → ev_lk w15 7 = some (.int (Int32.ofInt x14)) → ev_w none (ev_Mof 26) d 79 w15 [] s21 (jb_26_79 Q x4  K79 y12 y13 x14 s21) ev_eI ev_bl := by
  intro y12 y13 x14 hx14 s21 w15 e16 e17 e18 e19 e20
  unfold jb_26_79
  refine ev_r_iload (pc := 79) (k := 7) (v := Int32.ofInt x14) (by decide +kernel) (by exact e20) ?_
  refine ev_r_iload_n (pc := 81) (k := 2) (v := Int32.ofInt x4) (by decide +kernel) (by exact e17) ?_
  refine ev_r_jn (Q := fun K => ∀ (s26 : ev_St) (w22 : List (Nat × Value)), ev_lk w22 0 = some (.ref 6) → ev_lk w22 3 = some (.long y12) → ev_lk w22 5 = some (.long y13) → ev_w none (ev_Mof 26) d 148 w22 [] s26 (K  s26) ev_eI ev_bl) ?_ ?_
  · intro  s26 w22 e23 e24 e25
    refine ev_r_aload_n (pc := 148) (k := 0) (v := .ref 6) trivial (by decide +kernel) (by exact e23) ?_
    refine ev_r_lload_n (pc := 149) (k := 3) (v := y12) (by decide +kernel) (by exact e24) ?_
    refine ev_r_aload_n (pc := 150) (k := 0) (v := .ref 6) trivial (by decide +kernel) (by exact e23) ?_
    refine ev_r_getI (pc := 151) (y := 43) (ci := 1) (f := 10) (fin := 0) (by decide +kernel) (by decide +kernel) (by exact ev_ob_6) rfl ?_
    intro x27 hx27
    refine ev_r_jn (Q := fun K => ∀ (y29 : Int64), ∀ (y28 : Int64), ∀ (s31 : ev_St) (w30 : List (Nat × Value)), ev_w none (ev_Mof 26) d 167 w30 [.long y29, .long y28, .ref 6] s31 (K y29 y28 s31) ev_eI ev_bl) ?_ ?_
    · intro y29 y28 s31 w30 
      refine ev_r_virt (pc := 167) (y := 83) (mi := 22) (na := 2) (k := 6) (as := [.long y28, .long y29]) (rest := []) (encc := ev_oI) (Q := ev_bl) (fun x S1 h => jt_22 d (by omega) Q y28 y29  s31 x S1 h) (by exact ev_ob_6) (by decide +kernel) (by decide +kernel) (by decide +kernel) (by decide +kernel) rfl (by (try simp only [ev_sum, ev_nv_cat]); first | done | rfl) ?_
      intro x33 s32 hx33
      replace hx33 := ev_bl_rng hx33
      show ev_w _ _ _ _ _ [.int (Int32.ofInt x33)] _ _ _ _
      refine ev_r_chk ?_
      intro c34
      exact ev_r_ireturn (pc := 170) (x := x33) (v := Int32.ofInt x33) (ty := .boolean) c34 (by decide +kernel) (by decide +kernel) (ev_ret_bl c34) rfl
    · intro K167 hK167
      refine ev_r_if (pc := 154) (q := .eq) (o := 11) (t := 165) (c := x27 = 0) (by decide +kernel) (ev_k_eq hx27 ev_rng0) (by decide +kernel) ?_ ?_
      · intro c35
        refine ev_r_lload (pc := 165) (k := 5) (v := y13) (by decide +kernel) (by exact e25) ?_
        exact hK167 y13 y12 s26 _ 
      · intro c35
        refine ev_r_lload (pc := 157) (k := 5) (v := y13) (by decide +kernel) (by exact e25) ?_
        refine ev_r_stat (pc := 159) (y := 113) (kind := 5) (mi := 215) (na := 1) (as := [.long y13]) (rest := [.long y12, .ref 6]) (encc := ev_oL) (Q := ev_PU) (fun x S1 h => jt_215 d (by omega) Q y13  s26 x S1 h) (Or.inr (Or.inl rfl)) (by decide +kernel) (by decide +kernel) (by decide +kernel) (by decide +kernel) rfl (by (try simp only [ev_sum, ev_nv_cat]); first | done | rfl) ?_
        intro y37 s36 _
        show ev_w _ _ _ _ _ [.long y37, .long y12, .ref 6] _ _ _ _
        refine ev_r_goto (pc := 162) (o := 5) (t := 167) (by decide +kernel) (by decide +kernel) ?_
        exact hK167 y37 y12 s36 _ 
  · intro K148 hK148
    refine ev_r_icmp (pc := 82) (q := .gt) (o := 66) (t := 148) (c := x4 < x14) (by decide +kernel) (ev_k_gt hx14 hx4) (by decide +kernel) ?_ ?_
    · intro c38
      exact hK148  s21 _ (by exact e16) (by exact e18) (by exact e19)
    · intro c38
      refine ev_r_iload (pc := 85) (k := 7) (v := Int32.ofInt x14) (by decide +kernel) (by exact e20) ?_
      refine ev_r_sipush (pc := 87) (k := 128) (by decide +kernel) (by decide +kernel) ?_
      refine ev_r_icmp (pc := 90) (q := .ge) (o := 58) (t := 148) (c := 128 ≤ x14) (by decide +kernel) (ev_k_ge hx14 (by decide)) (by decide +kernel) ?_ ?_
      · intro c39
        exact hK148  s21 _ (by exact e16) (by exact e18) (by exact e19)
      · intro c39
        refine ev_r_iload (pc := 93) (k := 7) (v := Int32.ofInt x14) (by decide +kernel) (by exact e20) ?_
        refine ev_r_stat (pc := 95) (y := 110) (kind := 5) (mi := 207) (na := 1) (as := [.int (Int32.ofInt x14)]) (rest := []) (encc := ev_oI) (Q := ev_bl) (fun x S1 h => jt_207 d (by omega) Q x14 hx14 s21 x S1 h) (Or.inr (Or.inl rfl)) (by decide +kernel) (by decide +kernel) (by decide +kernel) (by decide +kernel) rfl (by (try simp only [ev_sum, ev_nv_cat]); first | done | rfl) ?_
        intro x41 s40 hx41
        replace hx41 := ev_bl_rng hx41
        show ev_w _ _ _ _ _ [.int (Int32.ofInt x41)] _ _ _ _
        refine ev_r_jn (Q := fun K => ∀ (y42 : Int64), ∀ (y43 : Int64), ∀ (s50 : ev_St) (w44 : List (Nat × Value)), ev_lk w44 0 = some (.ref 6) → ev_lk w44 2 = some (.int (Int32.ofInt x4)) → ev_lk w44 3 = some (.long y42) → ev_lk w44 5 = some (.long y43) → ev_lk w44 7 = some (.int (Int32.ofInt x14)) → ev_w none (ev_Mof 26) d 142 w44 [] s50 (K y42 y43 s50) ev_eI ev_bl) ?_ ?_
        · intro y42 y43 s50 w44 e45 e46 e47 e48 e49
          refine ev_r_iinc (pc := 142) (k := 7) (c := 1) (x := x14) (by decide +kernel) (by decide +kernel) (by exact e49) (fun _ => rfl) ?_
          intro x51 hx51
          refine ev_r_goto (pc := 145) (o := (-66)) (t := 79) (by decide +kernel) (by decide +kernel) ?_
          exact hK79 y42 y43 x51 hx51 s50 _ (by exact (ev_l1 e45 (by decide) (by decide))) (by exact (ev_l1 e46 (by decide) (by decide))) (by exact (ev_l1 e47 (by decide) (by decide))) (by exact (ev_l1 e48 (by decide) (by decide))) (by exact ev_lk_st1_self)
        · intro K142 hK142
          refine ev_r_if (pc := 98) (q := .eq) (o := 44) (t := 142) (c := x41 = 0) (by decide +kernel) (ev_k_eq hx41 ev_rng0) (by decide +kernel) ?_ ?_
          · intro c52
            exact hK142 y12 y13 s40 _ (by exact e16) (by exact e17) (by exact e18) (by exact e19) (by exact e20)
          · intro c52
            refine ev_r_lload_n (pc := 101) (k := 3) (v := y12) (by decide +kernel) (by exact e18) ?_
            refine ev_r_iload (pc := 102) (k := 7) (v := Int32.ofInt x14) (by decide +kernel) (by exact e20) ?_
            refine ev_r_bipush (pc := 104) (k := 64) (by decide +kernel) (by decide +kernel) ?_
            refine ev_r_jn (Q := fun K => ∀ (y54 : Int64), ∀ (y53 : Int64), ∀ (s60 : ev_St) (w55 : List (Nat × Value)), ev_lk w55 0 = some (.ref 6) → ev_lk w55 2 = some (.int (Int32.ofInt x4)) → ev_lk w55 5 = some (.long y13) → ev_lk w55 7 = some (.int (Int32.ofInt x14)) → ev_w none (ev_Mof 26) d 117 w55 [.long y54, .long y53] s60 (K y54 y53 s60) ev_eI ev_bl) ?_ ?_
            · intro y54 y53 s60 w55 e56 e57 e58 e59
              refine ev_r_toL (pc := 117) (i := .lor) (len := 1) (pc' := 118) (by decide +kernel) rfl ?_
              intro y61
              refine ev_r_lstore_n (pc := 118) (k := 3) (by decide +kernel) (by decide +kernel) rfl ?_
              refine ev_r_lload (pc := 119) (k := 5) (v := y13) (by decide +kernel) (by exact (ev_l2 e58 (by decide) (by decide) (Or.inl (by decide)))) ?_
              refine ev_r_iload (pc := 121) (k := 7) (v := Int32.ofInt x14) (by decide +kernel) (by exact (ev_l2 e59 (by decide) (by decide) (Or.inl (by decide)))) ?_
              refine ev_r_bipush (pc := 123) (k := 64) (by decide +kernel) (by decide +kernel) ?_
              refine ev_r_jn (Q := fun K => ∀ (y62 : Int64), ∀ (y64 : Int64), ∀ (y63 : Int64), ∀ (s70 : ev_St) (w65 : List (Nat × Value)), ev_lk w65 0 = some (.ref 6) → ev_lk w65 2 = some (.int (Int32.ofInt x4)) → ev_lk w65 3 = some (.long y62) → ev_lk w65 7 = some (.int (Int32.ofInt x14)) → ev_w none (ev_Mof 26) d 139 w65 [.long y64, .long y63] s70 (K y62 y64 y63 s70) ev_eI ev_bl) ?_ ?_
              · intro y62 y64 y63 s70 w65 e66 e67 e68 e69
                refine ev_r_toL (pc := 139) (i := .lor) (len := 1) (pc' := 140) (by decide +kernel) rfl ?_
                intro y71
                refine ev_r_lstore (pc := 140) (k := 5) (by decide +kernel) (by decide +kernel) rfl ?_
                exact hK142 y62 y71 s70 _ (by exact (ev_l2 e66 (by decide) (by decide) (Or.inl (by decide)))) (by exact (ev_l2 e67 (by decide) (by decide) (Or.inl (by decide)))) (by exact (ev_l2 e68 (by decide) (by decide) (Or.inl (by decide)))) (by exact ev_l2s) (by exact (ev_l2 e69 (by decide) (by decide) (Or.inl (by decide))))
              · intro K139 hK139
                refine ev_r_icmp (pc := 125) (q := .ge) (o := 7) (t := 132) (c := 64 ≤ x14) (by decide +kernel) (ev_k_ge hx14 (by decide)) (by decide +kernel) ?_ ?_
                · intro c72
                  refine ev_r_lconst (pc := 132) (c := 1) (by decide +kernel) ?_
                  refine ev_r_iload (pc := 133) (k := 7) (v := Int32.ofInt x14) (by decide +kernel) (by exact (ev_l2 e59 (by decide) (by decide) (Or.inl (by decide)))) ?_
                  refine ev_r_bipush (pc := 135) (k := 64) (by decide +kernel) (by decide +kernel) ?_
                  refine ev_r_isub (pc := 137) (by decide +kernel) ?_
                  intro x73 hx73
                  refine ev_r_toL (pc := 138) (i := .lshl) (len := 1) (pc' := 139) (by decide +kernel) rfl ?_
                  intro y74
                  exact hK139 y61 y74 y13 s60 _ (by exact (ev_l2 e56 (by decide) (by decide) (Or.inl (by decide)))) (by exact (ev_l2 e57 (by decide) (by decide) (Or.inr rfl))) (by exact ev_l2s) (by exact (ev_l2 e59 (by decide) (by decide) (Or.inl (by decide))))
                · intro c72
                  refine ev_r_lconst (pc := 128) (c := 0) (by decide +kernel) ?_
                  refine ev_r_goto (pc := 129) (o := 10) (t := 139) (by decide +kernel) (by decide +kernel) ?_
                  exact hK139 y61 ((Int64.ofNat ((0 : Fin 2) : Nat))) y13 s60 _ (by exact (ev_l2 e56 (by decide) (by decide) (Or.inl (by decide)))) (by exact (ev_l2 e57 (by decide) (by decide) (Or.inr rfl))) (by exact ev_l2s) (by exact (ev_l2 e59 (by decide) (by decide) (Or.inl (by decide))))
            · intro K117 hK117
              refine ev_r_icmp (pc := 106) (q := .ge) (o := 10) (t := 116) (c := 64 ≤ x14) (by decide +kernel) (ev_k_ge hx14 (by decide)) (by decide +kernel) ?_ ?_
              · intro c75
                refine ev_r_lconst (pc := 116) (c := 0) (by decide +kernel) ?_
                exact hK117 ((Int64.ofNat ((0 : Fin 2) : Nat))) y12 s40 _ (by exact e16) (by exact e17) (by exact e19) (by exact e20)
              · intro c75
                refine ev_r_lconst (pc := 109) (c := 1) (by decide +kernel) ?_
                refine ev_r_iload (pc := 110) (k := 7) (v := Int32.ofInt x14) (by decide +kernel) (by exact e20) ?_
                refine ev_r_toL (pc := 112) (i := .lshl) (len := 1) (pc' := 113) (by decide +kernel) rfl ?_
                intro y76
                refine ev_r_goto (pc := 113) (o := 4) (t := 117) (by decide +kernel) (by decide +kernel) ?_
                exact hK117 y76 y12 s40 _ (by exact e16) (by exact e17) (by exact e19) (by exact e20)
theorem jlt_26_79 (d : Nat) (hd : 3 ≤ d + 1) (Q : Nat) (x4 : Int) (hx4 : ev_rng x4)   : ∀ q : Nat, ∀ (y12 : Int64), ∀ (y13 : Int64), ∀ (x14 : Int) (hx14 : ev_rng x14), ∀ (s21 : ev_St) (w15 : List (Nat × Value)), ev_lk w15 0 = some (.ref 6) → ev_lk w15 2 = some (.int (Int32.ofInt x4)) → ev_lk w15 3 = some (.long y12) → ev_lk w15 5 = some (.long y13) → ev_lk w15 7 = some (.int (Int32.ofInt x14)) → ev_w none (ev_Mof 26) d 79 w15 [] s21 (jl_26_79 Q x4  q y12 y13 x14 s21) ev_eI ev_bl := by
  intro q
  induction q with
  | zero =>
    intro y12 y13 x14 hx14 s21 w15 e16 e17 e18 e19 e20
    exact ev_w_none
  | succ q ih => exact jbt_26_79 d hd Q x4 hx4   _ ih
/-- MendBench$ClassReader.readRange()Z -/
def jm_26 (Q : Nat)  (S : ev_St) : Option ((Int) × ev_St) := ev_bd (jm_27 Q  S) fun x2 s1 => ev_jn (fun (x3 : Int) (x4 : Int) (s9 : ev_St) => if x3 < 0 then (some (0, s9)) else (if x3 ≤ x4 then (jl_26_79 Q x4  Q ((Int64.ofNat ((0 : Fin 2) : Nat))) ((Int64.ofNat ((0 : Fin 2) : Nat))) x3 s9) else (some (0, s9)))) fun K60 => if x2 < 0 then (K60 x2 x2 s1) else (ev_b (s1.2.2.1 6 8) fun r78 => ev_b (s1.1 6 9) fun x79 => ev_if (r78 ≠ 0) (ev_bd (jm_151 Q ((r78 - 1)) x79 s1) fun x82 s81 => if x82 ≠ 45 then (K60 x2 x2 s81) else (ev_b (s81.2.2.1 6 8) fun r84 => ev_b (s81.1 6 9) fun x85 => ev_ck (x85 + 1) fun x86 => ev_if (r84 ≠ 0) (ev_bd (jm_151 Q ((r84 - 1)) x86 s81) fun x89 s88 => if x89 = 45 then (K60 x2 x2 s88) else (ev_b (s88.1 6 9) fun x91 => ev_ck (x91 + 1) fun x92 => ev_b (ev_pI s88 6 9 x92) fun s93 => ev_bd (jm_27 Q  s93) fun x95 s94 => K60 x2 x95 s94)))))
theorem jt_26 (d : Nat) (hd : 3 ≤ d) (Q : Nat)   (S : ev_St) (x : Int) (S' : ev_St) (hJ : jm_26 Q  S = some (x, S')) : ev_Ref d 26 [.ref 6] S (ev_eI x) S' (ev_bl x) := by
  obtain ⟨d, rfl⟩ : ∃ e, d = e + 1 := ⟨d - 1, by omega⟩
  refine ev_ref_of (P := ev_bl) (lv := [(0, .ref 6)]) (by decide +kernel) (by (try simp only [ev_sum, ev_nv_cat]); first | done | rfl) (by (try simp only [lv_args, ev_nv_cat]); first | done | rfl) ?_ x S' hJ
  unfold jm_26
  refine ev_r_aload_n (pc := 0) (k := 0) (v := .ref 6) trivial (by decide +kernel) (by rfl) ?_
  refine ev_r_virt (pc := 1) (y := 106) (mi := 27) (na := 0) (k := 6) (as := []) (rest := []) (encc := ev_oI) (Q := ev_rng) (fun x S1 h => jt_27 d (by omega) Q   S x S1 h) (by exact ev_ob_6) (by decide +kernel) (by decide +kernel) (by decide +kernel) (by decide +kernel) rfl (by (try simp only [ev_sum, ev_nv_cat]); first | done | rfl) ?_
  intro x2 s1 hx2
  show ev_w _ _ _ _ _ [.int (Int32.ofInt x2)] _ _ _ _
  refine ev_r_istore_n (pc := 4) (k := 1) (by decide +kernel) (by decide +kernel) rfl ?_
  refine ev_r_iload_n (pc := 5) (k := 1) (v := Int32.ofInt x2) (by decide +kernel) (by exact ev_lk_st1_self) ?_
  refine ev_r_istore_n (pc := 6) (k := 2) (by decide +kernel) (by decide +kernel) rfl ?_
  refine ev_r_iload_n (pc := 7) (k := 1) (v := Int32.ofInt x2) (by decide +kernel) (by exact (ev_lk_st1 ev_lk_st1_self (by decide) rfl)) ?_
  refine ev_r_jn (Q := fun K => ∀ (x3 : Int) (hx3 : ev_rng x3), ∀ (x4 : Int) (hx4 : ev_rng x4), ∀ (s9 : ev_St) (w5 : List (Nat × Value)), ev_lk w5 0 = some (.ref 6) → ev_lk w5 1 = some (.int (Int32.ofInt x3)) → ev_lk w5 2 = some (.int (Int32.ofInt x4)) → ev_w none (ev_Mof 26) d 60 w5 [] s9 (K x3 x4 s9) ev_eI ev_bl) ?_ ?_
  · intro x3 hx3 x4 hx4 s9 w5 e6 e7 e8
    refine ev_r_iload_n (pc := 60) (k := 1) (v := Int32.ofInt x3) (by decide +kernel) (by exact e7) ?_
    refine ev_r_if (pc := 61) (q := .lt) (o := 8) (t := 69) (c := x3 < 0) (by decide +kernel) (ev_k_lt hx3 ev_rng0) (by decide +kernel) ?_ ?_
    · intro c10
      refine ev_r_iconst (pc := 69) (k := 0) (by decide +kernel) ?_
      exact ev_r_ireturn (pc := 70) (x := 0) (v := Int32.ofInt 0) (ty := .boolean) (by decide : ev_bl 0) (by decide +kernel) (by decide +kernel) (ev_ret_bl (by decide : ev_bl 0)) rfl
    · intro c10
      refine ev_r_iload_n (pc := 64) (k := 2) (v := Int32.ofInt x4) (by decide +kernel) (by exact e8) ?_
      refine ev_r_iload_n (pc := 65) (k := 1) (v := Int32.ofInt x3) (by decide +kernel) (by exact e7) ?_
      refine ev_r_icmp (pc := 66) (q := .ge) (o := 5) (t := 71) (c := x3 ≤ x4) (by decide +kernel) (ev_k_ge hx4 hx3) (by decide +kernel) ?_ ?_
      · intro c11
        refine ev_r_lconst (pc := 71) (c := 0) (by decide +kernel) ?_
        refine ev_r_lstore_n (pc := 72) (k := 3) (by decide +kernel) (by decide +kernel) rfl ?_
        refine ev_r_lconst (pc := 73) (c := 0) (by decide +kernel) ?_
        refine ev_r_lstore (pc := 74) (k := 5) (by decide +kernel) (by decide +kernel) rfl ?_
        refine ev_r_iload_n (pc := 76) (k := 1) (v := Int32.ofInt x3) (by decide +kernel) (by exact (ev_l2 (ev_l2 e7 (by decide) (by decide) (Or.inl (by decide))) (by decide) (by decide) (Or.inl (by decide)))) ?_
        refine ev_r_istore (pc := 77) (k := 7) (by decide +kernel) (by decide +kernel) rfl ?_
        exact jlt_26_79 d hd Q x4 hx4   Q ((Int64.ofNat ((0 : Fin 2) : Nat))) ((Int64.ofNat ((0 : Fin 2) : Nat))) x3 hx3 s9 _ (by exact (ev_l1 (ev_l2 (ev_l2 e6 (by decide) (by decide) (Or.inl (by decide))) (by decide) (by decide) (Or.inl (by decide))) (by decide) (by decide))) (by exact (ev_l1 (ev_l2 (ev_l2 e8 (by decide) (by decide) (Or.inr rfl)) (by decide) (by decide) (Or.inl (by decide))) (by decide) (by decide))) (by exact (ev_l1 (ev_l2 ev_l2s (by decide) (by decide) (Or.inl (by decide))) (by decide) (by decide))) (by exact (ev_l1 ev_l2s (by decide) (by decide))) (by exact ev_lk_st1_self)
      · intro c11
        refine ev_r_iconst (pc := 69) (k := 0) (by decide +kernel) ?_
        exact ev_r_ireturn (pc := 70) (x := 0) (v := Int32.ofInt 0) (ty := .boolean) (by decide : ev_bl 0) (by decide +kernel) (by decide +kernel) (ev_ret_bl (by decide : ev_bl 0)) rfl
  · intro K60 hK60
    refine ev_r_if (pc := 8) (q := .lt) (o := 52) (t := 60) (c := x2 < 0) (by decide +kernel) (ev_k_lt hx2 ev_rng0) (by decide +kernel) ?_ ?_
    · intro c77
      exact hK60 x2 hx2 x2 hx2 s1 _ (by exact (ev_l1 (ev_lk_st1 (by rfl) (by decide) rfl) (by decide) (by decide))) (by exact (ev_lk_st1 ev_lk_st1_self (by decide) rfl)) (by exact ev_lk_st1_self)
    · intro c77
      refine ev_r_aload_n (pc := 11) (k := 0) (v := .ref 6) trivial (by decide +kernel) (by exact (ev_l1 (ev_lk_st1 (by rfl) (by decide) rfl) (by decide) (by decide))) ?_
      refine ev_r_getR (pc := 12) (y := 35) (ci := 1) (f := 8) (fin := 0) (t := 10) (by decide +kernel) (by decide +kernel) (by exact ev_ob_6) rfl rfl ?_
      intro r78 hr78
      have hr78 : r78 = 0 ∨ ev_isOb (r78 - 1) 10 = true := hr78
      refine ev_r_aload_n (pc := 15) (k := 0) (v := .ref 6) trivial (by decide +kernel) (by exact (ev_l1 (ev_lk_st1 (by rfl) (by decide) rfl) (by decide) (by decide))) ?_
      refine ev_r_getI (pc := 16) (y := 39) (ci := 1) (f := 9) (fin := 0) (by decide +kernel) (by decide +kernel) (by exact ev_ob_6) rfl ?_
      intro x79 hx79
      refine ev_r_chk ?_
      intro c80
      refine ev_r_dr (r := r78) (fun v => [.int (Int32.ofInt x79), v]) c80 ?_
      refine ev_r_virt (pc := 19) (y := 62) (mi := 151) (na := 1) (k := (r78 - 1)) (as := [.int (Int32.ofInt x79)]) (rest := []) (encc := ev_oI) (Q := ev_rng) (fun x S1 h => jt_151 d (by omega) Q ((r78 - 1)) x79 (hr78.resolve_left c80) hx79 s1 x S1 h) (by exact (hr78.resolve_left c80)) (by decide +kernel) (by decide +kernel) (by decide +kernel) (by decide +kernel) rfl (by (try simp only [ev_sum, ev_nv_cat]); first | done | rfl) ?_
      intro x82 s81 hx82
      show ev_w _ _ _ _ _ [.int (Int32.ofInt x82)] _ _ _ _
      refine ev_r_bipush (pc := 22) (k := 45) (by decide +kernel) (by decide +kernel) ?_
      refine ev_r_icmp (pc := 24) (q := .ne) (o := 36) (t := 60) (c := x82 ≠ 45) (by decide +kernel) (ev_k_ne hx82 (by decide)) (by decide +kernel) ?_ ?_
      · intro c83
        exact hK60 x2 hx2 x2 hx2 s81 _ (by exact (ev_l1 (ev_lk_st1 (by rfl) (by decide) rfl) (by decide) (by decide))) (by exact (ev_lk_st1 ev_lk_st1_self (by decide) rfl)) (by exact ev_lk_st1_self)
      · intro c83
        refine ev_r_aload_n (pc := 27) (k := 0) (v := .ref 6) trivial (by decide +kernel) (by exact (ev_l1 (ev_lk_st1 (by rfl) (by decide) rfl) (by decide) (by decide))) ?_
        refine ev_r_getR (pc := 28) (y := 35) (ci := 1) (f := 8) (fin := 0) (t := 10) (by decide +kernel) (by decide +kernel) (by exact ev_ob_6) rfl rfl ?_
        intro r84 hr84
        have hr84 : r84 = 0 ∨ ev_isOb (r84 - 1) 10 = true := hr84
        refine ev_r_aload_n (pc := 31) (k := 0) (v := .ref 6) trivial (by decide +kernel) (by exact (ev_l1 (ev_lk_st1 (by rfl) (by decide) rfl) (by decide) (by decide))) ?_
        refine ev_r_getI (pc := 32) (y := 39) (ci := 1) (f := 9) (fin := 0) (by decide +kernel) (by decide +kernel) (by exact ev_ob_6) rfl ?_
        intro x85 hx85
        refine ev_r_iconst (pc := 35) (k := 1) (by decide +kernel) ?_
        refine ev_r_iadd (pc := 36) (by decide +kernel) ?_
        intro x86 hx86
        refine ev_r_chk ?_
        intro c87
        refine ev_r_dr (r := r84) (fun v => [.int (Int32.ofInt x86), v]) c87 ?_
        refine ev_r_virt (pc := 37) (y := 62) (mi := 151) (na := 1) (k := (r84 - 1)) (as := [.int (Int32.ofInt x86)]) (rest := []) (encc := ev_oI) (Q := ev_rng) (fun x S1 h => jt_151 d (by omega) Q ((r84 - 1)) x86 (hr84.resolve_left c87) hx86 s81 x S1 h) (by exact (hr84.resolve_left c87)) (by decide +kernel) (by decide +kernel) (by decide +kernel) (by decide +kernel) rfl (by (try simp only [ev_sum, ev_nv_cat]); first | done | rfl) ?_
        intro x89 s88 hx89
        show ev_w _ _ _ _ _ [.int (Int32.ofInt x89)] _ _ _ _
        refine ev_r_bipush (pc := 40) (k := 45) (by decide +kernel) (by decide +kernel) ?_
        refine ev_r_icmp (pc := 42) (q := .eq) (o := 18) (t := 60) (c := x89 = 45) (by decide +kernel) (ev_k_eq hx89 (by decide)) (by decide +kernel) ?_ ?_
        · intro c90
          exact hK60 x2 hx2 x2 hx2 s88 _ (by exact (ev_l1 (ev_lk_st1 (by rfl) (by decide) rfl) (by decide) (by decide))) (by exact (ev_lk_st1 ev_lk_st1_self (by decide) rfl)) (by exact ev_lk_st1_self)
        · intro c90
          refine ev_r_aload_n (pc := 45) (k := 0) (v := .ref 6) trivial (by decide +kernel) (by exact (ev_l1 (ev_lk_st1 (by rfl) (by decide) rfl) (by decide) (by decide))) ?_
          refine ev_r_dup (pc := 46) rfl (by decide +kernel) ?_
          refine ev_r_getI (pc := 47) (y := 39) (ci := 1) (f := 9) (fin := 0) (by decide +kernel) (by decide +kernel) (by exact ev_ob_6) rfl ?_
          intro x91 hx91
          refine ev_r_iconst (pc := 50) (k := 1) (by decide +kernel) ?_
          refine ev_r_iadd (pc := 51) (by decide +kernel) ?_
          intro x92 hx92
          refine ev_r_putI (pc := 52) (y := 39) (ci := 1) (f := 9) hx92 (by decide +kernel) (by decide +kernel) (by exact ev_ob_6) rfl rfl ?_
          intro s93
          refine ev_r_aload_n (pc := 55) (k := 0) (v := .ref 6) trivial (by decide +kernel) (by exact (ev_l1 (ev_lk_st1 (by rfl) (by decide) rfl) (by decide) (by decide))) ?_
          refine ev_r_virt (pc := 56) (y := 106) (mi := 27) (na := 0) (k := 6) (as := []) (rest := []) (encc := ev_oI) (Q := ev_rng) (fun x S1 h => jt_27 d (by omega) Q   s93 x S1 h) (by exact ev_ob_6) (by decide +kernel) (by decide +kernel) (by decide +kernel) (by decide +kernel) rfl (by (try simp only [ev_sum, ev_nv_cat]); first | done | rfl) ?_
          intro x95 s94 hx95
          show ev_w _ _ _ _ _ [.int (Int32.ofInt x95)] _ _ _ _
          refine ev_r_istore_n (pc := 59) (k := 2) (by decide +kernel) (by decide +kernel) rfl ?_
          exact hK60 x2 hx2 x95 hx95 s94 _ (by exact (ev_l1 (ev_l1 (ev_lk_st1 (by rfl) (by decide) rfl) (by decide) (by decide)) (by decide) (by decide))) (by exact (ev_lk_st1 (ev_lk_st1 ev_lk_st1_self (by decide) rfl) (by decide) rfl)) (by exact ev_lk_st1_self)
/-- MendBench$ClassReader.readElement()Z -/
def jm_21 (Q : Nat)  (S : ev_St) : Option ((Int) × ev_St) := ev_b (S.2.2.1 6 8) fun r1 => ev_b (S.1 6 9) fun x2 => ev_if (r1 ≠ 0) (ev_bd (jm_151 Q ((r1 - 1)) x2 S) fun x5 s4 => ev_b (s4.2.2.1 6 8) fun r6 => ev_b (s4.1 6 9) fun x7 => ev_ck (x7 + 1) fun x8 => ev_if (r6 ≠ 0) (ev_bd (jm_151 Q ((r6 - 1)) x8 s4) fun x11 s10 => if x5 ≠ 93 then (if x5 ≠ 91 then (ev_jn (fun  (s18 : ev_St) => ev_jn (fun  (s21 : ev_St) => ev_bd (jm_26 Q  s21) fun x23 s22 => ev_if (ev_bl x23) (some (x23, s22))) fun K137 => if x5 ≠ 92 then (K137  s18) else (ev_bd (jm_216 Q x11 s18) fun x27 s26 => if x27 = 0 then (K137  s26) else (ev_b (s26.1 6 9) fun x29 => ev_ck (x29 + 2) fun x30 => ev_b (ev_pI s26 6 9 x30) fun s31 => ev_bd (jm_217 Q x11 s31) fun y33 s32 => ev_bd (jm_218 Q x11 s32) fun y35 s34 => ev_bd (jm_22 Q y33 y35 s34) fun x37 s36 => ev_if (ev_bl x37) (some (x37, s36))))) fun K101 => if x5 ≠ x11 then (K101  s10) else (ev_jn (fun  (s43 : ev_St) => ev_b (s43.1 6 9) fun x44 => ev_ck (x44 + 2) fun x45 => ev_b (ev_pI s43 6 9 x45) fun s46 => ev_bd (jm_23 Q x5 s46) fun x48 s47 => ev_if (ev_bl x48) (some (x48, s47))) fun K85 => if x5 = 38 then (K85  s10) else (if x5 ≠ 45 then (K101  s10) else (K85  s10)))) else (ev_b (s10.1 6 9) fun x52 => ev_ck (x52 + 1) fun x53 => ev_b (ev_pI s10 6 9 x53) fun s54 => ev_bd (jm_19 Q  s54) fun x56 s55 => ev_if (ev_bl x56) (some (x56, s55)))) else (ev_b (s10.1 6 9) fun x58 => ev_ck (x58 + 1) fun x59 => ev_b (ev_pI s10 6 9 x59) fun s60 => ev_bd (jm_25 Q  s60) fun x62 s61 => ev_if (ev_bl x62) (some (x62, s61)))))
theorem jt_21 (d : Nat) (hd : 4 ≤ d) (Q : Nat)   (S : ev_St) (x : Int) (S' : ev_St) (hJ : jm_21 Q  S = some (x, S')) : ev_Ref d 21 [.ref 6] S (ev_eI x) S' (ev_bl x) := by
  obtain ⟨d, rfl⟩ : ∃ e, d = e + 1 := ⟨d - 1, by omega⟩
  refine ev_ref_of (P := ev_bl) (lv := [(0, .ref 6)]) (by decide +kernel) (by (try simp only [ev_sum, ev_nv_cat]); first | done | rfl) (by (try simp only [lv_args, ev_nv_cat]); first | done | rfl) ?_ x S' hJ
  unfold jm_21
  refine ev_r_aload_n (pc := 0) (k := 0) (v := .ref 6) trivial (by decide +kernel) (by rfl) ?_
  refine ev_r_getR (pc := 1) (y := 35) (ci := 1) (f := 8) (fin := 0) (t := 10) (by decide +kernel) (by decide +kernel) (by exact ev_ob_6) rfl rfl ?_
  intro r1 hr1
  have hr1 : r1 = 0 ∨ ev_isOb (r1 - 1) 10 = true := hr1
  refine ev_r_aload_n (pc := 4) (k := 0) (v := .ref 6) trivial (by decide +kernel) (by rfl) ?_
  refine ev_r_getI (pc := 5) (y := 39) (ci := 1) (f := 9) (fin := 0) (by decide +kernel) (by decide +kernel) (by exact ev_ob_6) rfl ?_
  intro x2 hx2
  refine ev_r_chk ?_
  intro c3
  refine ev_r_dr (r := r1) (fun v => [.int (Int32.ofInt x2), v]) c3 ?_
  refine ev_r_virt (pc := 8) (y := 62) (mi := 151) (na := 1) (k := (r1 - 1)) (as := [.int (Int32.ofInt x2)]) (rest := []) (encc := ev_oI) (Q := ev_rng) (fun x S1 h => jt_151 d (by omega) Q ((r1 - 1)) x2 (hr1.resolve_left c3) hx2 S x S1 h) (by exact (hr1.resolve_left c3)) (by decide +kernel) (by decide +kernel) (by decide +kernel) (by decide +kernel) rfl (by (try simp only [ev_sum, ev_nv_cat]); first | done | rfl) ?_
  intro x5 s4 hx5
  show ev_w _ _ _ _ _ [.int (Int32.ofInt x5)] _ _ _ _
  refine ev_r_istore_n (pc := 11) (k := 1) (by decide +kernel) (by decide +kernel) rfl ?_
  refine ev_r_aload_n (pc := 12) (k := 0) (v := .ref 6) trivial (by decide +kernel) (by exact (ev_lk_st1 (by rfl) (by decide) rfl)) ?_
  refine ev_r_getR (pc := 13) (y := 35) (ci := 1) (f := 8) (fin := 0) (t := 10) (by decide +kernel) (by decide +kernel) (by exact ev_ob_6) rfl rfl ?_
  intro r6 hr6
  have hr6 : r6 = 0 ∨ ev_isOb (r6 - 1) 10 = true := hr6
  refine ev_r_aload_n (pc := 16) (k := 0) (v := .ref 6) trivial (by decide +kernel) (by exact (ev_lk_st1 (by rfl) (by decide) rfl)) ?_
  refine ev_r_getI (pc := 17) (y := 39) (ci := 1) (f := 9) (fin := 0) (by decide +kernel) (by decide +kernel) (by exact ev_ob_6) rfl ?_
  intro x7 hx7
  refine ev_r_iconst (pc := 20) (k := 1) (by decide +kernel) ?_
  refine ev_r_iadd (pc := 21) (by decide +kernel) ?_
  intro x8 hx8
  refine ev_r_chk ?_
  intro c9
  refine ev_r_dr (r := r6) (fun v => [.int (Int32.ofInt x8), v]) c9 ?_
  refine ev_r_virt (pc := 22) (y := 62) (mi := 151) (na := 1) (k := (r6 - 1)) (as := [.int (Int32.ofInt x8)]) (rest := []) (encc := ev_oI) (Q := ev_rng) (fun x S1 h => jt_151 d (by omega) Q ((r6 - 1)) x8 (hr6.resolve_left c9) hx8 s4 x S1 h) (by exact (hr6.resolve_left c9)) (by decide +kernel) (by decide +kernel) (by decide +kernel) (by decide +kernel) rfl (by (try simp only [ev_sum, ev_nv_cat]); first | done | rfl) ?_
  intro x11 s10 hx11
  show ev_w _ _ _ _ _ [.int (Int32.ofInt x11)] _ _ _ _
  refine ev_r_istore_n (pc := 25) (k := 2) (by decide +kernel) (by decide +kernel) rfl ?_
  refine ev_r_iload_n (pc := 26) (k := 1) (v := Int32.ofInt x5) (by decide +kernel) (by exact (ev_lk_st1 ev_lk_st1_self (by decide) rfl)) ?_
  refine ev_r_bipush (pc := 27) (k := 93) (by decide +kernel) (by decide +kernel) ?_
  refine ev_r_icmp (pc := 29) (q := .ne) (o := 18) (t := 47) (c := x5 ≠ 93) (by decide +kernel) (ev_k_ne hx5 (by decide)) (by decide +kernel) ?_ ?_
  · intro c12
    refine ev_r_iload_n (pc := 47) (k := 1) (v := Int32.ofInt x5) (by decide +kernel) (by exact (ev_lk_st1 ev_lk_st1_self (by decide) rfl)) ?_
    refine ev_r_bipush (pc := 48) (k := 91) (by decide +kernel) (by decide +kernel) ?_
    refine ev_r_icmp (pc := 50) (q := .ne) (o := 18) (t := 68) (c := x5 ≠ 91) (by decide +kernel) (ev_k_ne hx5 (by decide)) (by decide +kernel) ?_ ?_
    · intro c13
      refine ev_r_iload_n (pc := 68) (k := 1) (v := Int32.ofInt x5) (by decide +kernel) (by exact (ev_lk_st1 ev_lk_st1_self (by decide) rfl)) ?_
      refine ev_r_iload_n (pc := 69) (k := 2) (v := Int32.ofInt x11) (by decide +kernel) (by exact ev_lk_st1_self) ?_
      refine ev_r_jn (Q := fun K => ∀ (s18 : ev_St) (w14 : List (Nat × Value)), ev_lk w14 0 = some (.ref 6) → ev_lk w14 1 = some (.int (Int32.ofInt x5)) → ev_lk w14 2 = some (.int (Int32.ofInt x11)) → ev_w none (ev_Mof 21) d 101 w14 [] s18 (K  s18) ev_eI ev_bl) ?_ ?_
      · intro  s18 w14 e15 e16 e17
        refine ev_r_iload_n (pc := 101) (k := 1) (v := Int32.ofInt x5) (by decide +kernel) (by exact e16) ?_
        refine ev_r_bipush (pc := 102) (k := 92) (by decide +kernel) (by decide +kernel) ?_
        refine ev_r_jn (Q := fun K => ∀ (s21 : ev_St) (w19 : List (Nat × Value)), ev_lk w19 0 = some (.ref 6) → ev_w none (ev_Mof 21) d 137 w19 [] s21 (K  s21) ev_eI ev_bl) ?_ ?_
        · intro  s21 w19 e20
          refine ev_r_aload_n (pc := 137) (k := 0) (v := .ref 6) trivial (by decide +kernel) (by exact e20) ?_
          refine ev_r_virt (pc := 138) (y := 87) (mi := 26) (na := 0) (k := 6) (as := []) (rest := []) (encc := ev_oI) (Q := ev_bl) (fun x S1 h => jt_26 d (by omega) Q   s21 x S1 h) (by exact ev_ob_6) (by decide +kernel) (by decide +kernel) (by decide +kernel) (by decide +kernel) rfl (by (try simp only [ev_sum, ev_nv_cat]); first | done | rfl) ?_
          intro x23 s22 hx23
          replace hx23 := ev_bl_rng hx23
          show ev_w _ _ _ _ _ [.int (Int32.ofInt x23)] _ _ _ _
          refine ev_r_chk ?_
          intro c24
          exact ev_r_ireturn (pc := 141) (x := x23) (v := Int32.ofInt x23) (ty := .boolean) c24 (by decide +kernel) (by decide +kernel) (ev_ret_bl c24) rfl
        · intro K137 hK137
          refine ev_r_icmp (pc := 104) (q := .ne) (o := 33) (t := 137) (c := x5 ≠ 92) (by decide +kernel) (ev_k_ne hx5 (by decide)) (by decide +kernel) ?_ ?_
          · intro c25
            exact hK137  s18 _ (by exact e15)
          · intro c25
            refine ev_r_iload_n (pc := 107) (k := 2) (v := Int32.ofInt x11) (by decide +kernel) (by exact e17) ?_
            refine ev_r_stat (pc := 108) (y := 73) (kind := 5) (mi := 216) (na := 1) (as := [.int (Int32.ofInt x11)]) (rest := []) (encc := ev_oI) (Q := ev_bl) (fun x S1 h => jt_216 d (by omega) Q x11 hx11 s18 x S1 h) (Or.inr (Or.inl rfl)) (by decide +kernel) (by decide +kernel) (by decide +kernel) (by decide +kernel) rfl (by (try simp only [ev_sum, ev_nv_cat]); first | done | rfl) ?_
            intro x27 s26 hx27
            replace hx27 := ev_bl_rng hx27
            show ev_w _ _ _ _ _ [.int (Int32.ofInt x27)] _ _ _ _
            refine ev_r_if (pc := 111) (q := .eq) (o := 26) (t := 137) (c := x27 = 0) (by decide +kernel) (ev_k_eq hx27 ev_rng0) (by decide +kernel) ?_ ?_
            · intro c28
              exact hK137  s26 _ (by exact e15)
            · intro c28
              refine ev_r_aload_n (pc := 114) (k := 0) (v := .ref 6) trivial (by decide +kernel) (by exact e15) ?_
              refine ev_r_dup (pc := 115) rfl (by decide +kernel) ?_
              refine ev_r_getI (pc := 116) (y := 39) (ci := 1) (f := 9) (fin := 0) (by decide +kernel) (by decide +kernel) (by exact ev_ob_6) rfl ?_
              intro x29 hx29
              refine ev_r_iconst (pc := 119) (k := 2) (by decide +kernel) ?_
              refine ev_r_iadd (pc := 120) (by decide +kernel) ?_
              intro x30 hx30
              refine ev_r_putI (pc := 121) (y := 39) (ci := 1) (f := 9) hx30 (by decide +kernel) (by decide +kernel) (by exact ev_ob_6) rfl rfl ?_
              intro s31
              refine ev_r_aload_n (pc := 124) (k := 0) (v := .ref 6) trivial (by decide +kernel) (by exact e15) ?_
              refine ev_r_iload_n (pc := 125) (k := 2) (v := Int32.ofInt x11) (by decide +kernel) (by exact e17) ?_
              refine ev_r_stat (pc := 126) (y := 76) (kind := 5) (mi := 217) (na := 1) (as := [.int (Int32.ofInt x11)]) (rest := [.ref 6]) (encc := ev_oL) (Q := ev_PU) (fun x S1 h => jt_217 d (by omega) Q x11 hx11 s31 x S1 h) (Or.inr (Or.inl rfl)) (by decide +kernel) (by decide +kernel) (by decide +kernel) (by decide +kernel) rfl (by (try simp only [ev_sum, ev_nv_cat]); first | done | rfl) ?_
              intro y33 s32 _
              show ev_w _ _ _ _ _ [.long y33, .ref 6] _ _ _ _
              refine ev_r_iload_n (pc := 129) (k := 2) (v := Int32.ofInt x11) (by decide +kernel) (by exact e17) ?_
              refine ev_r_stat (pc := 130) (y := 80) (kind := 5) (mi := 218) (na := 1) (as := [.int (Int32.ofInt x11)]) (rest := [.long y33, .ref 6]) (encc := ev_oL) (Q := ev_PU) (fun x S1 h => jt_218 d (by omega) Q x11 hx11 s32 x S1 h) (Or.inr (Or.inl rfl)) (by decide +kernel) (by decide +kernel) (by decide +kernel) (by decide +kernel) rfl (by (try simp only [ev_sum, ev_nv_cat]); first | done | rfl) ?_
              intro y35 s34 _
              show ev_w _ _ _ _ _ [.long y35, .long y33, .ref 6] _ _ _ _
              refine ev_r_virt (pc := 133) (y := 83) (mi := 22) (na := 2) (k := 6) (as := [.long y33, .long y35]) (rest := []) (encc := ev_oI) (Q := ev_bl) (fun x S1 h => jt_22 d (by omega) Q y33 y35  s34 x S1 h) (by exact ev_ob_6) (by decide +kernel) (by decide +kernel) (by decide +kernel) (by decide +kernel) rfl (by (try simp only [ev_sum, ev_nv_cat]); first | done | rfl) ?_
              intro x37 s36 hx37
              replace hx37 := ev_bl_rng hx37
              show ev_w _ _ _ _ _ [.int (Int32.ofInt x37)] _ _ _ _
              refine ev_r_chk ?_
              intro c38
              exact ev_r_ireturn (pc := 136) (x := x37) (v := Int32.ofInt x37) (ty := .boolean) c38 (by decide +kernel) (by decide +kernel) (ev_ret_bl c38) rfl
      · intro K101 hK101
        refine ev_r_icmp (pc := 70) (q := .ne) (o := 31) (t := 101) (c := x5 ≠ x11) (by decide +kernel) (ev_k_ne hx5 hx11) (by decide +kernel) ?_ ?_
        · intro c39
          exact hK101  s10 _ (by exact (ev_l1 (ev_lk_st1 (by rfl) (by decide) rfl) (by decide) (by decide))) (by exact (ev_lk_st1 ev_lk_st1_self (by decide) rfl)) (by exact ev_lk_st1_self)
        · intro c39
          refine ev_r_iload_n (pc := 73) (k := 1) (v := Int32.ofInt x5) (by decide +kernel) (by exact (ev_lk_st1 ev_lk_st1_self (by decide) rfl)) ?_
          refine ev_r_bipush (pc := 74) (k := 38) (by decide +kernel) (by decide +kernel) ?_
          refine ev_r_jn (Q := fun K => ∀ (s43 : ev_St) (w40 : List (Nat × Value)), ev_lk w40 0 = some (.ref 6) → ev_lk w40 1 = some (.int (Int32.ofInt x5)) → ev_w none (ev_Mof 21) d 85 w40 [] s43 (K  s43) ev_eI ev_bl) ?_ ?_
          · intro  s43 w40 e41 e42
            refine ev_r_aload_n (pc := 85) (k := 0) (v := .ref 6) trivial (by decide +kernel) (by exact e41) ?_
            refine ev_r_dup (pc := 86) rfl (by decide +kernel) ?_
            refine ev_r_getI (pc := 87) (y := 39) (ci := 1) (f := 9) (fin := 0) (by decide +kernel) (by decide +kernel) (by exact ev_ob_6) rfl ?_
            intro x44 hx44
            refine ev_r_iconst (pc := 90) (k := 2) (by decide +kernel) ?_
            refine ev_r_iadd (pc := 91) (by decide +kernel) ?_
            intro x45 hx45
            refine ev_r_putI (pc := 92) (y := 39) (ci := 1) (f := 9) hx45 (by decide +kernel) (by decide +kernel) (by exact ev_ob_6) rfl rfl ?_
            intro s46
            refine ev_r_aload_n (pc := 95) (k := 0) (v := .ref 6) trivial (by decide +kernel) (by exact e41) ?_
            refine ev_r_iload_n (pc := 96) (k := 1) (v := Int32.ofInt x5) (by decide +kernel) (by exact e42) ?_
            refine ev_r_virt (pc := 97) (y := 69) (mi := 23) (na := 1) (k := 6) (as := [.int (Int32.ofInt x5)]) (rest := []) (encc := ev_oI) (Q := ev_bl) (fun x S1 h => jt_23 d (by omega) Q x5 hx5 s46 x S1 h) (by exact ev_ob_6) (by decide +kernel) (by decide +kernel) (by decide +kernel) (by decide +kernel) rfl (by (try simp only [ev_sum, ev_nv_cat]); first | done | rfl) ?_
            intro x48 s47 hx48
            replace hx48 := ev_bl_rng hx48
            show ev_w _ _ _ _ _ [.int (Int32.ofInt x48)] _ _ _ _
            refine ev_r_chk ?_
            intro c49
            exact ev_r_ireturn (pc := 100) (x := x48) (v := Int32.ofInt x48) (ty := .boolean) c49 (by decide +kernel) (by decide +kernel) (ev_ret_bl c49) rfl
          · intro K85 hK85
            refine ev_r_icmp (pc := 76) (q := .eq) (o := 9) (t := 85) (c := x5 = 38) (by decide +kernel) (ev_k_eq hx5 (by decide)) (by decide +kernel) ?_ ?_
            · intro c50
              exact hK85  s10 _ (by exact (ev_l1 (ev_lk_st1 (by rfl) (by decide) rfl) (by decide) (by decide))) (by exact (ev_lk_st1 ev_lk_st1_self (by decide) rfl))
            · intro c50
              refine ev_r_iload_n (pc := 79) (k := 1) (v := Int32.ofInt x5) (by decide +kernel) (by exact (ev_lk_st1 ev_lk_st1_self (by decide) rfl)) ?_
              refine ev_r_bipush (pc := 80) (k := 45) (by decide +kernel) (by decide +kernel) ?_
              refine ev_r_icmp (pc := 82) (q := .ne) (o := 19) (t := 101) (c := x5 ≠ 45) (by decide +kernel) (ev_k_ne hx5 (by decide)) (by decide +kernel) ?_ ?_
              · intro c51
                exact hK101  s10 _ (by exact (ev_l1 (ev_lk_st1 (by rfl) (by decide) rfl) (by decide) (by decide))) (by exact (ev_lk_st1 ev_lk_st1_self (by decide) rfl)) (by exact ev_lk_st1_self)
              · intro c51
                exact hK85  s10 _ (by exact (ev_l1 (ev_lk_st1 (by rfl) (by decide) rfl) (by decide) (by decide))) (by exact (ev_lk_st1 ev_lk_st1_self (by decide) rfl))
    · intro c13
      refine ev_r_aload_n (pc := 53) (k := 0) (v := .ref 6) trivial (by decide +kernel) (by exact (ev_l1 (ev_lk_st1 (by rfl) (by decide) rfl) (by decide) (by decide))) ?_
      refine ev_r_dup (pc := 54) rfl (by decide +kernel) ?_
      refine ev_r_getI (pc := 55) (y := 39) (ci := 1) (f := 9) (fin := 0) (by decide +kernel) (by decide +kernel) (by exact ev_ob_6) rfl ?_
      intro x52 hx52
      refine ev_r_iconst (pc := 58) (k := 1) (by decide +kernel) ?_
      refine ev_r_iadd (pc := 59) (by decide +kernel) ?_
      intro x53 hx53
      refine ev_r_putI (pc := 60) (y := 39) (ci := 1) (f := 9) hx53 (by decide +kernel) (by decide +kernel) (by exact ev_ob_6) rfl rfl ?_
      intro s54
      refine ev_r_aload_n (pc := 63) (k := 0) (v := .ref 6) trivial (by decide +kernel) (by exact (ev_l1 (ev_lk_st1 (by rfl) (by decide) rfl) (by decide) (by decide))) ?_
      refine ev_r_virt (pc := 64) (y := 50) (mi := 19) (na := 0) (k := 6) (as := []) (rest := []) (encc := ev_oI) (Q := ev_bl) (fun x S1 h => jt_19 d (by omega) Q   s54 x S1 h) (by exact ev_ob_6) (by decide +kernel) (by decide +kernel) (by decide +kernel) (by decide +kernel) rfl (by (try simp only [ev_sum, ev_nv_cat]); first | done | rfl) ?_
      intro x56 s55 hx56
      replace hx56 := ev_bl_rng hx56
      show ev_w _ _ _ _ _ [.int (Int32.ofInt x56)] _ _ _ _
      refine ev_r_chk ?_
      intro c57
      exact ev_r_ireturn (pc := 67) (x := x56) (v := Int32.ofInt x56) (ty := .boolean) c57 (by decide +kernel) (by decide +kernel) (ev_ret_bl c57) rfl
  · intro c12
    refine ev_r_aload_n (pc := 32) (k := 0) (v := .ref 6) trivial (by decide +kernel) (by exact (ev_l1 (ev_lk_st1 (by rfl) (by decide) rfl) (by decide) (by decide))) ?_
    refine ev_r_dup (pc := 33) rfl (by decide +kernel) ?_
    refine ev_r_getI (pc := 34) (y := 39) (ci := 1) (f := 9) (fin := 0) (by decide +kernel) (by decide +kernel) (by exact ev_ob_6) rfl ?_
    intro x58 hx58
    refine ev_r_iconst (pc := 37) (k := 1) (by decide +kernel) ?_
    refine ev_r_iadd (pc := 38) (by decide +kernel) ?_
    intro x59 hx59
    refine ev_r_putI (pc := 39) (y := 39) (ci := 1) (f := 9) hx59 (by decide +kernel) (by decide +kernel) (by exact ev_ob_6) rfl rfl ?_
    intro s60
    refine ev_r_aload_n (pc := 42) (k := 0) (v := .ref 6) trivial (by decide +kernel) (by exact (ev_l1 (ev_lk_st1 (by rfl) (by decide) rfl) (by decide) (by decide))) ?_
    refine ev_r_virt (pc := 43) (y := 66) (mi := 25) (na := 0) (k := 6) (as := []) (rest := []) (encc := ev_oI) (Q := ev_bl) (fun x S1 h => jt_25 d (by omega) Q   s60 x S1 h) (by exact ev_ob_6) (by decide +kernel) (by decide +kernel) (by decide +kernel) (by decide +kernel) rfl (by (try simp only [ev_sum, ev_nv_cat]); first | done | rfl) ?_
    intro x62 s61 hx62
    replace hx62 := ev_bl_rng hx62
    show ev_w _ _ _ _ _ [.int (Int32.ofInt x62)] _ _ _ _
    refine ev_r_chk ?_
    intro c63
    exact ev_r_ireturn (pc := 46) (x := x62) (v := Int32.ofInt x62) (ty := .boolean) c63 (by decide +kernel) (by decide +kernel) (ev_ret_bl c63) rfl
def jb_18_32 (Q : Nat)   (K32 : Int → ev_St → Option ((Int) × ev_St)) (x9 : Int) (s13 : ev_St) : Option ((Int) × ev_St) := if 160 ≤ x9 then (some ((-1), s13)) else (ev_b (s13.1 6 7) fun x15 => if 0 ≤ x15 then (ev_bd (jm_21 Q  s13) fun x18 s17 => if x18 ≠ 0 then (ev_ck (x9 + 1) fun x20 => K32 x20 s17) else (some ((-1), s17))) else (ev_b (s13.1 6 9) fun x21 => some (x21, s13)))
def jl_18_32 (Q : Nat)   : Nat → Int → ev_St → Option ((Int) × ev_St)
  | 0 => fun _ _ => none
  | q + 1 => jb_18_32 Q   (jl_18_32 Q   q)
theorem jbt_18_32 (d : Nat) (hd : 5 ≤ d + 1) (Q : Nat)     (K32 : Int → ev_St → Option ((Int) × ev_St)) (hK32 : ∀ (x9 : Int) (hx9 : ev_rng x9), ∀ (s13 : ev_St) (w10 : List (Nat × Value)), ev_lk w10 0 = some (.ref 6) → ev_lk w10 4 = some (.int (Int32.ofInt x9)) → ev_w none (ev_Mof 18) d 32 w10 [] s13 (K32 x9 s13) ev_eI ev_rng) : ∀ (x9 : Int) (hx9 : ev_rng x9), ∀ (s13 : ev_St) (w10 : List (Nat × Value)), ev_lk w10 0 = some (.ref 6) → ev_lk w10 4 = some (.int (Int32.ofInt x9)) → ev_w none (ev_Mof 18) d 32 w10 [] s13 (jb_18_32 Q   K32 x9 s13) ev_eI ev_rng := by
  intro x9 hx9 s13 w10 e11 e12
  unfold jb_18_32
  refine ev_r_iload (pc := 32) (k := 4) (v := Int32.ofInt x9) (by decide +kernel) (by exact e12) ?_
  refine ev_r_sipush (pc := 34) (k := 160) (by decide +kernel) (by decide +kernel) ?_
  refine ev_r_icmp (pc := 37) (q := .ge) (o := 30) (t := 67) (c := 160 ≤ x9) (by decide +kernel) (ev_k_ge hx9 (by decide)) (by decide +kernel) ?_ ?_
  · intro c14
    refine ev_r_iconst (pc := 67) (k := -1) (by decide +kernel) ?_
    exact ev_r_ireturn (pc := 68) (x := (-1)) (v := Int32.ofInt ((-1))) (ty := .int) (by decide) (by decide +kernel) (by decide +kernel) rfl rfl
  · intro c14
    refine ev_r_aload_n (pc := 40) (k := 0) (v := .ref 6) trivial (by decide +kernel) (by exact e11) ?_
    refine ev_r_getI (pc := 41) (y := 47) (ci := 1) (f := 7) (fin := 0) (by decide +kernel) (by decide +kernel) (by exact ev_ob_6) rfl ?_
    intro x15 hx15
    refine ev_r_if (pc := 44) (q := .ge) (o := 8) (t := 52) (c := 0 ≤ x15) (by decide +kernel) (ev_k_ge hx15 ev_rng0) (by decide +kernel) ?_ ?_
    · intro c16
      refine ev_r_aload_n (pc := 52) (k := 0) (v := .ref 6) trivial (by decide +kernel) (by exact e11) ?_
      refine ev_r_virt (pc := 53) (y := 56) (mi := 21) (na := 0) (k := 6) (as := []) (rest := []) (encc := ev_oI) (Q := ev_bl) (fun x S1 h => jt_21 d (by omega) Q   s13 x S1 h) (by exact ev_ob_6) (by decide +kernel) (by decide +kernel) (by decide +kernel) (by decide +kernel) rfl (by (try simp only [ev_sum, ev_nv_cat]); first | done | rfl) ?_
      intro x18 s17 hx18
      replace hx18 := ev_bl_rng hx18
      show ev_w _ _ _ _ _ [.int (Int32.ofInt x18)] _ _ _ _
      refine ev_r_if (pc := 56) (q := .ne) (o := 5) (t := 61) (c := x18 ≠ 0) (by decide +kernel) (ev_k_ne hx18 ev_rng0) (by decide +kernel) ?_ ?_
      · intro c19
        refine ev_r_iinc (pc := 61) (k := 4) (c := 1) (x := x9) (by decide +kernel) (by decide +kernel) (by exact e12) (fun _ => rfl) ?_
        intro x20 hx20
        refine ev_r_goto (pc := 64) (o := (-32)) (t := 32) (by decide +kernel) (by decide +kernel) ?_
        exact hK32 x20 hx20 s17 _ (by exact (ev_l1 e11 (by decide) (by decide))) (by exact ev_lk_st1_self)
      · intro c19
        refine ev_r_iconst (pc := 59) (k := -1) (by decide +kernel) ?_
        exact ev_r_ireturn (pc := 60) (x := (-1)) (v := Int32.ofInt ((-1))) (ty := .int) (by decide) (by decide +kernel) (by decide +kernel) rfl rfl
    · intro c16
      refine ev_r_aload_n (pc := 47) (k := 0) (v := .ref 6) trivial (by decide +kernel) (by exact e11) ?_
      refine ev_r_getI (pc := 48) (y := 39) (ci := 1) (f := 9) (fin := 0) (by decide +kernel) (by decide +kernel) (by exact ev_ob_6) rfl ?_
      intro x21 hx21
      exact ev_r_ireturn (pc := 51) (x := x21) (v := Int32.ofInt x21) (ty := .int) hx21 (by decide +kernel) (by decide +kernel) rfl rfl
theorem jlt_18_32 (d : Nat) (hd : 5 ≤ d + 1) (Q : Nat)     : ∀ q : Nat, ∀ (x9 : Int) (hx9 : ev_rng x9), ∀ (s13 : ev_St) (w10 : List (Nat × Value)), ev_lk w10 0 = some (.ref 6) → ev_lk w10 4 = some (.int (Int32.ofInt x9)) → ev_w none (ev_Mof 18) d 32 w10 [] s13 (jl_18_32 Q   q x9 s13) ev_eI ev_rng := by
  intro q
  induction q with
  | zero =>
    intro x9 hx9 s13 w10 e11 e12
    exact ev_w_none
  | succ q ih => exact jbt_18_32 d hd Q     _ ih
/-- MendBench$ClassReader.read(LMendBench$Text;IZ)I -/
def jm_18 (Q : Nat) (a0 : Nat) (a1 : Int) (a2 : Int) (S : ev_St) : Option ((Int) × ev_St) := ev_b (ev_pR S 6 8 a0) fun s1 => ev_b (ev_pI s1 6 9 a1) fun s2 => ev_if (ev_bl a2) (ev_b (ev_pI s2 6 10 a2) fun s3 => ev_b (ev_pI s3 6 7 ((-1))) fun s5 => ev_bd (jm_19 Q  s5) fun x7 s6 => if x7 ≠ 0 then (jl_18_32 Q   Q 0 s6) else (some ((-1), s6)))
theorem jt_18 (d : Nat) (hd : 5 ≤ d) (Q : Nat) (a0 : Nat) (a1 : Int) (a2 : Int) (ha0 : a0 = 0 ∨ ev_isOb (a0 - 1) 10 = true) (ha1 : ev_rng a1) (ha2 : ev_rng a2) (S : ev_St) (x : Int) (S' : ev_St) (hJ : jm_18 Q a0 a1 a2 S = some (x, S')) : ev_Ref d 18 [.ref 6, ev_nv a0, .int (Int32.ofInt a1), .int (Int32.ofInt a2)] S (ev_eI x) S' (ev_rng x) := by
  obtain ⟨d, rfl⟩ : ∃ e, d = e + 1 := ⟨d - 1, by omega⟩
  refine ev_ref_of (P := ev_rng) (lv := [(0, .ref 6), (1, ev_nv a0), (2, .int (Int32.ofInt a1)), (3, .int (Int32.ofInt a2))]) (by decide +kernel) (by (try simp only [ev_sum, ev_nv_cat]); first | done | rfl) (by (try simp only [lv_args, ev_nv_cat]); first | done | rfl) ?_ x S' hJ
  unfold jm_18
  refine ev_r_aload_n (pc := 0) (k := 0) (v := .ref 6) trivial (by decide +kernel) (by rfl) ?_
  refine ev_r_aload_n (pc := 1) (k := 1) (v := ev_nv a0) (ev_isR_nv _) (by decide +kernel) (by rfl) ?_
  refine ev_r_putR (pc := 2) (y := 35) (ci := 1) (f := 8) (r := a0) (t := 10) (by exact ha0) (by decide +kernel) (by decide +kernel) (by exact ev_ob_6) rfl rfl (by cases a0 <;> rfl) ?_
  intro s1
  refine ev_r_aload_n (pc := 5) (k := 0) (v := .ref 6) trivial (by decide +kernel) (by rfl) ?_
  refine ev_r_iload_n (pc := 6) (k := 2) (v := Int32.ofInt a1) (by decide +kernel) (by rfl) ?_
  refine ev_r_putI (pc := 7) (y := 39) (ci := 1) (f := 9) ha1 (by decide +kernel) (by decide +kernel) (by exact ev_ob_6) rfl rfl ?_
  intro s2
  refine ev_r_aload_n (pc := 10) (k := 0) (v := .ref 6) trivial (by decide +kernel) (by rfl) ?_
  refine ev_r_iload_n (pc := 11) (k := 3) (v := Int32.ofInt a2) (by decide +kernel) (by rfl) ?_
  refine ev_r_chk ?_
  intro c4
  refine ev_r_putI (pc := 12) (y := 43) (ci := 1) (f := 10) ha2 (by decide +kernel) (by decide +kernel) (by exact ev_ob_6) rfl (ev_fit_bl c4) ?_
  intro s3
  refine ev_r_aload_n (pc := 15) (k := 0) (v := .ref 6) trivial (by decide +kernel) (by rfl) ?_
  refine ev_r_iconst (pc := 16) (k := -1) (by decide +kernel) ?_
  refine ev_r_putI (pc := 17) (y := 47) (ci := 1) (f := 7) (by decide) (by decide +kernel) (by decide +kernel) (by exact ev_ob_6) rfl rfl ?_
  intro s5
  refine ev_r_aload_n (pc := 20) (k := 0) (v := .ref 6) trivial (by decide +kernel) (by rfl) ?_
  refine ev_r_virt (pc := 21) (y := 50) (mi := 19) (na := 0) (k := 6) (as := []) (rest := []) (encc := ev_oI) (Q := ev_bl) (fun x S1 h => jt_19 d (by omega) Q   s5 x S1 h) (by exact ev_ob_6) (by decide +kernel) (by decide +kernel) (by decide +kernel) (by decide +kernel) rfl (by (try simp only [ev_sum, ev_nv_cat]); first | done | rfl) ?_
  intro x7 s6 hx7
  replace hx7 := ev_bl_rng hx7
  show ev_w _ _ _ _ _ [.int (Int32.ofInt x7)] _ _ _ _
  refine ev_r_if (pc := 24) (q := .ne) (o := 5) (t := 29) (c := x7 ≠ 0) (by decide +kernel) (ev_k_ne hx7 ev_rng0) (by decide +kernel) ?_ ?_
  · intro c8
    refine ev_r_iconst (pc := 29) (k := 0) (by decide +kernel) ?_
    refine ev_r_istore (pc := 30) (k := 4) (by decide +kernel) (by decide +kernel) rfl ?_
    exact jlt_18_32 d hd Q     Q 0 (by decide) s6 _ (by exact (ev_l1 (by rfl) (by decide) (by decide))) (by exact ev_lk_st1_self)
  · intro c8
    refine ev_r_iconst (pc := 27) (k := -1) (by decide +kernel) ?_
    exact ev_r_ireturn (pc := 28) (x := (-1)) (v := Int32.ofInt ((-1))) (ty := .int) (by decide) (by decide +kernel) (by decide +kernel) rfl rfl
/-- MendBench$Facts.put([JIJJ)V -/
def jm_36 (Q : Nat) (a0 : Nat) (a1 : Int) (a2 : Int64) (a3 : Int64) (S : ev_St) : Option ((Unit) × ev_St) := if a1 < 0 then (some ((), S)) else (ev_ck (2 * a1) fun x2 => ev_ck (x2 + 1) fun x3 => ev_if (a0 ≠ 0) (ev_b (ev_aln ((a0 - 1)) : Int) fun x5 => if x5 ≤ x3 then (some ((), S)) else (ev_ck (2 * a1) fun x7 => ev_if (a0 ≠ 0) (ev_if ((0 : Int) ≤ x7 ∧ x7 < (ev_aln ((a0 - 1)) : Int)) (ev_b (ev_pL S ((a0 - 1)) (Int.toNat x7) a2) fun s9 => ev_ck (2 * a1) fun x10 => ev_ck (x10 + 1) fun x11 => ev_if (a0 ≠ 0) (ev_if ((0 : Int) ≤ x11 ∧ x11 < (ev_aln ((a0 - 1)) : Int)) (ev_b (ev_pL s9 ((a0 - 1)) (Int.toNat x11) a3) fun s13 => some ((), s13))))))))
theorem jt_36 (d : Nat) (hd : 1 ≤ d) (Q : Nat) (a0 : Nat) (a1 : Int) (a2 : Int64) (a3 : Int64) (ha0 : a0 = 0 ∨ ev_isAb (a0 - 1) 2 .long = true) (ha1 : ev_rng a1) (S : ev_St) (x : Unit) (S' : ev_St) (hJ : jm_36 Q a0 a1 a2 a3 S = some (x, S')) : ev_Ref d 36 [.ref 221, ev_nv a0, .int (Int32.ofInt a1), .long a2, .long a3] S (ev_eU x) S' (ev_PU x) := by
  obtain ⟨d, rfl⟩ : ∃ e, d = e + 1 := ⟨d - 1, by omega⟩
  refine ev_ref_of (P := ev_PU) (lv := [(0, .ref 221), (1, ev_nv a0), (2, .int (Int32.ofInt a1)), (3, .long a2), (5, .long a3)]) (by decide +kernel) (by (try simp only [ev_sum, ev_nv_cat]); first | done | rfl) (by (try simp only [lv_args, ev_nv_cat]); first | done | rfl) ?_ x S' hJ
  unfold jm_36
  refine ev_r_iload_n (pc := 0) (k := 2) (v := Int32.ofInt a1) (by decide +kernel) (by rfl) ?_
  refine ev_r_if (pc := 1) (q := .lt) (o := 28) (t := 29) (c := a1 < 0) (by decide +kernel) (ev_k_lt ha1 ev_rng0) (by decide +kernel) ?_ ?_
  · intro c1
    exact ev_r_return (pc := 29) (x := ()) trivial (by decide +kernel) (by decide +kernel) rfl
  · intro c1
    refine ev_r_iconst (pc := 4) (k := 2) (by decide +kernel) ?_
    refine ev_r_iload_n (pc := 5) (k := 2) (v := Int32.ofInt a1) (by decide +kernel) (by rfl) ?_
    refine ev_r_imul (pc := 6) (by decide +kernel) ?_
    intro x2 hx2
    refine ev_r_iconst (pc := 7) (k := 1) (by decide +kernel) ?_
    refine ev_r_iadd (pc := 8) (by decide +kernel) ?_
    intro x3 hx3
    refine ev_r_aload_n (pc := 9) (k := 1) (v := ev_nv a0) (ev_isR_nv _) (by decide +kernel) (by rfl) ?_
    refine ev_r_chk ?_
    intro c4
    refine ev_r_dr (r := a0) (fun v => [v, .int (Int32.ofInt x3)]) c4 ?_
    refine ev_r_alen (pc := 10) (kd := 2) (ty := .long) (Or.inr rfl) (by decide +kernel) (by exact (ha0.resolve_left c4)) ?_
    intro x5 hx5
    refine ev_r_icmp (pc := 11) (q := .ge) (o := 18) (t := 29) (c := x5 ≤ x3) (by decide +kernel) (ev_k_ge hx3 hx5) (by decide +kernel) ?_ ?_
    · intro c6
      exact ev_r_return (pc := 29) (x := ()) trivial (by decide +kernel) (by decide +kernel) rfl
    · intro c6
      refine ev_r_aload_n (pc := 14) (k := 1) (v := ev_nv a0) (ev_isR_nv _) (by decide +kernel) (by rfl) ?_
      refine ev_r_iconst (pc := 15) (k := 2) (by decide +kernel) ?_
      refine ev_r_iload_n (pc := 16) (k := 2) (v := Int32.ofInt a1) (by decide +kernel) (by rfl) ?_
      refine ev_r_imul (pc := 17) (by decide +kernel) ?_
      intro x7 hx7
      refine ev_r_lload_n (pc := 18) (k := 3) (v := a2) (by decide +kernel) (by rfl) ?_
      refine ev_r_chk ?_
      intro c8
      refine ev_r_dr (r := a0) (fun v => [.long a2, .int (Int32.ofInt x7), v]) c8 ?_
      refine ev_r_last (pc := 19) hx7 (by decide +kernel) (by exact (ha0.resolve_left c8)) ?_
      intro s9
      refine ev_r_aload_n (pc := 20) (k := 1) (v := ev_nv a0) (ev_isR_nv _) (by decide +kernel) (by rfl) ?_
      refine ev_r_iconst (pc := 21) (k := 2) (by decide +kernel) ?_
      refine ev_r_iload_n (pc := 22) (k := 2) (v := Int32.ofInt a1) (by decide +kernel) (by rfl) ?_
      refine ev_r_imul (pc := 23) (by decide +kernel) ?_
      intro x10 hx10
      refine ev_r_iconst (pc := 24) (k := 1) (by decide +kernel) ?_
      refine ev_r_iadd (pc := 25) (by decide +kernel) ?_
      intro x11 hx11
      refine ev_r_lload (pc := 26) (k := 5) (v := a3) (by decide +kernel) (by rfl) ?_
      refine ev_r_chk ?_
      intro c12
      refine ev_r_dr (r := a0) (fun v => [.long a3, .int (Int32.ofInt x11), v]) c12 ?_
      refine ev_r_last (pc := 28) hx11 (by decide +kernel) (by exact (ha0.resolve_left c12)) ?_
      intro s13
      exact ev_r_return (pc := 29) (x := ()) trivial (by decide +kernel) (by decide +kernel) rfl
/-- MendBench$Facts.empty([JI)V -/
def jm_35 (Q : Nat) (a0 : Nat) (a1 : Int) (S : ev_St) : Option ((Unit) × ev_St) := ev_bd (jm_36 Q a0 a1 ((Int64.ofNat ((0 : Fin 2) : Nat))) ((Int64.ofNat ((0 : Fin 2) : Nat))) S) fun _ s1 => some ((), s1)
theorem jt_35 (d : Nat) (hd : 2 ≤ d) (Q : Nat) (a0 : Nat) (a1 : Int) (ha0 : a0 = 0 ∨ ev_isAb (a0 - 1) 2 .long = true) (ha1 : ev_rng a1) (S : ev_St) (x : Unit) (S' : ev_St) (hJ : jm_35 Q a0 a1 S = some (x, S')) : ev_Ref d 35 [.ref 221, ev_nv a0, .int (Int32.ofInt a1)] S (ev_eU x) S' (ev_PU x) := by
  obtain ⟨d, rfl⟩ : ∃ e, d = e + 1 := ⟨d - 1, by omega⟩
  refine ev_ref_of (P := ev_PU) (lv := [(0, .ref 221), (1, ev_nv a0), (2, .int (Int32.ofInt a1))]) (by decide +kernel) (by (try simp only [ev_sum, ev_nv_cat]); first | done | rfl) (by (try simp only [lv_args, ev_nv_cat]); first | done | rfl) ?_ x S' hJ
  unfold jm_35
  refine ev_r_aload_n (pc := 0) (k := 0) (v := .ref 221) trivial (by decide +kernel) (by rfl) ?_
  refine ev_r_aload_n (pc := 1) (k := 1) (v := ev_nv a0) (ev_isR_nv _) (by decide +kernel) (by rfl) ?_
  refine ev_r_iload_n (pc := 2) (k := 2) (v := Int32.ofInt a1) (by decide +kernel) (by rfl) ?_
  refine ev_r_lconst (pc := 3) (c := 0) (by decide +kernel) ?_
  refine ev_r_lconst (pc := 4) (c := 0) (by decide +kernel) ?_
  refine ev_r_virt (pc := 5) (y := 128) (mi := 36) (na := 4) (k := 221) (as := [ev_nv a0, .int (Int32.ofInt a1), .long ((Int64.ofNat ((0 : Fin 2) : Nat))), .long ((Int64.ofNat ((0 : Fin 2) : Nat)))]) (rest := []) (encc := ev_oU) (Q := ev_PU) (fun x S1 h => jt_36 d (by omega) Q a0 a1 ((Int64.ofNat ((0 : Fin 2) : Nat))) ((Int64.ofNat ((0 : Fin 2) : Nat))) (by exact ha0) ha1 S x S1 h) (by exact ev_ob_221) (by decide +kernel) (by decide +kernel) (by decide +kernel) (by decide +kernel) rfl (by (try simp only [ev_sum, ev_nv_cat]); first | done | rfl) ?_
  intro _ s1 _
  show ev_w _ _ _ _ _ [] _ _ _ _
  exact ev_r_return (pc := 8) (x := ()) trivial (by decide +kernel) (by decide +kernel) rfl
/-- MendBench$Pattern.isEnd(I)Z -/
def jm_61 (Q : Nat) (a0 : Int) (S : ev_St) : Option ((Int) × ev_St) := if a0 < 1 then (some (0, S)) else (if 6 < a0 then (some (0, S)) else (some (1, S)))
theorem jt_61 (d : Nat) (hd : 1 ≤ d) (Q : Nat) (a0 : Int) (ha0 : ev_rng a0) (S : ev_St) (x : Int) (S' : ev_St) (hJ : jm_61 Q a0 S = some (x, S')) : ev_Ref d 61 [.int (Int32.ofInt a0)] S (ev_eI x) S' (ev_bl x) := by
  obtain ⟨d, rfl⟩ : ∃ e, d = e + 1 := ⟨d - 1, by omega⟩
  refine ev_ref_of (P := ev_bl) (lv := [(0, .int (Int32.ofInt a0))]) (by decide +kernel) (by (try simp only [ev_sum, ev_nv_cat]); first | done | rfl) (by (try simp only [lv_args, ev_nv_cat]); first | done | rfl) ?_ x S' hJ
  unfold jm_61
  refine ev_r_iload_n (pc := 0) (k := 0) (v := Int32.ofInt a0) (by decide +kernel) (by rfl) ?_
  refine ev_r_iconst (pc := 1) (k := 1) (by decide +kernel) ?_
  refine ev_r_icmp (pc := 2) (q := .lt) (o := 13) (t := 15) (c := a0 < 1) (by decide +kernel) (ev_k_lt ha0 (by decide)) (by decide +kernel) ?_ ?_
  · intro c1
    refine ev_r_iconst (pc := 15) (k := 0) (by decide +kernel) ?_
    exact ev_r_ireturn (pc := 16) (x := 0) (v := Int32.ofInt 0) (ty := .boolean) (by decide : ev_bl 0) (by decide +kernel) (by decide +kernel) (ev_ret_bl (by decide : ev_bl 0)) rfl
  · intro c1
    refine ev_r_iload_n (pc := 5) (k := 0) (v := Int32.ofInt a0) (by decide +kernel) (by rfl) ?_
    refine ev_r_bipush (pc := 6) (k := 6) (by decide +kernel) (by decide +kernel) ?_
    refine ev_r_icmp (pc := 8) (q := .gt) (o := 7) (t := 15) (c := 6 < a0) (by decide +kernel) (ev_k_gt ha0 (by decide)) (by decide +kernel) ?_ ?_
    · intro c2
      refine ev_r_iconst (pc := 15) (k := 0) (by decide +kernel) ?_
      exact ev_r_ireturn (pc := 16) (x := 0) (v := Int32.ofInt 0) (ty := .boolean) (by decide : ev_bl 0) (by decide +kernel) (by decide +kernel) (ev_ret_bl (by decide : ev_bl 0)) rfl
    · intro c2
      refine ev_r_iconst (pc := 11) (k := 1) (by decide +kernel) ?_
      refine ev_r_goto (pc := 12) (o := 4) (t := 16) (by decide +kernel) (by decide +kernel) ?_
      exact ev_r_ireturn (pc := 16) (x := 1) (v := Int32.ofInt 1) (ty := .boolean) (by decide : ev_bl 1) (by decide +kernel) (by decide +kernel) (ev_ret_bl (by decide : ev_bl 1)) rfl
/-- MendBench$Pattern.isRepeat(I)Z -/
def jm_62 (Q : Nat) (a0 : Int) (S : ev_St) : Option ((Int) × ev_St) := if a0 = 13 then (some (1, S)) else (if a0 ≠ 14 then (some (0, S)) else (some (1, S)))
theorem jt_62 (d : Nat) (hd : 1 ≤ d) (Q : Nat) (a0 : Int) (ha0 : ev_rng a0) (S : ev_St) (x : Int) (S' : ev_St) (hJ : jm_62 Q a0 S = some (x, S')) : ev_Ref d 62 [.int (Int32.ofInt a0)] S (ev_eI x) S' (ev_bl x) := by
  obtain ⟨d, rfl⟩ : ∃ e, d = e + 1 := ⟨d - 1, by omega⟩
  refine ev_ref_of (P := ev_bl) (lv := [(0, .int (Int32.ofInt a0))]) (by decide +kernel) (by (try simp only [ev_sum, ev_nv_cat]); first | done | rfl) (by (try simp only [lv_args, ev_nv_cat]); first | done | rfl) ?_ x S' hJ
  unfold jm_62
  refine ev_r_iload_n (pc := 0) (k := 0) (v := Int32.ofInt a0) (by decide +kernel) (by rfl) ?_
  refine ev_r_bipush (pc := 1) (k := 13) (by decide +kernel) (by decide +kernel) ?_
  refine ev_r_icmp (pc := 3) (q := .eq) (o := 9) (t := 12) (c := a0 = 13) (by decide +kernel) (ev_k_eq ha0 (by decide)) (by decide +kernel) ?_ ?_
  · intro c1
    refine ev_r_iconst (pc := 12) (k := 1) (by decide +kernel) ?_
    refine ev_r_goto (pc := 13) (o := 4) (t := 17) (by decide +kernel) (by decide +kernel) ?_
    exact ev_r_ireturn (pc := 17) (x := 1) (v := Int32.ofInt 1) (ty := .boolean) (by decide : ev_bl 1) (by decide +kernel) (by decide +kernel) (ev_ret_bl (by decide : ev_bl 1)) rfl
  · intro c1
    refine ev_r_iload_n (pc := 6) (k := 0) (v := Int32.ofInt a0) (by decide +kernel) (by rfl) ?_
    refine ev_r_bipush (pc := 7) (k := 14) (by decide +kernel) (by decide +kernel) ?_
    refine ev_r_icmp (pc := 9) (q := .ne) (o := 7) (t := 16) (c := a0 ≠ 14) (by decide +kernel) (ev_k_ne ha0 (by decide)) (by decide +kernel) ?_ ?_
    · intro c2
      refine ev_r_iconst (pc := 16) (k := 0) (by decide +kernel) ?_
      exact ev_r_ireturn (pc := 17) (x := 0) (v := Int32.ofInt 0) (ty := .boolean) (by decide : ev_bl 0) (by decide +kernel) (by decide +kernel) (ev_ret_bl (by decide : ev_bl 0)) rfl
    · intro c2
      refine ev_r_iconst (pc := 12) (k := 1) (by decide +kernel) ?_
      refine ev_r_goto (pc := 13) (o := 4) (t := 17) (by decide +kernel) (by decide +kernel) ?_
      exact ev_r_ireturn (pc := 17) (x := 1) (v := Int32.ofInt 1) (ty := .boolean) (by decide : ev_bl 1) (by decide +kernel) (by decide +kernel) (ev_ret_bl (by decide : ev_bl 1)) rfl
/-- MendBench$Pattern.isNode(I)Z -/
def jm_59 (Q : Nat) (k : Nat) (a0 : Int) (S : ev_St) : Option ((Int) × ev_St) := if a0 < 0 then (some (0, S)) else (ev_b (S.1 k 11) fun x2 => if x2 ≤ a0 then (some (0, S)) else (if 400 ≤ a0 then (some (0, S)) else (some (1, S))))
theorem jt_59 (d : Nat) (hd : 1 ≤ d) (Q : Nat) (k : Nat) (a0 : Int) (hk : ev_isOb k 5 = true) (ha0 : ev_rng a0) (S : ev_St) (x : Int) (S' : ev_St) (hJ : jm_59 Q k a0 S = some (x, S')) : ev_Ref d 59 [.ref k, .int (Int32.ofInt a0)] S (ev_eI x) S' (ev_bl x) := by
  obtain ⟨d, rfl⟩ : ∃ e, d = e + 1 := ⟨d - 1, by omega⟩
  refine ev_ref_of (P := ev_bl) (lv := [(0, .ref k), (1, .int (Int32.ofInt a0))]) (by decide +kernel) (by (try simp only [ev_sum, ev_nv_cat]); first | done | rfl) (by (try simp only [lv_args, ev_nv_cat]); first | done | rfl) ?_ x S' hJ
  unfold jm_59
  refine ev_r_iload_n (pc := 0) (k := 1) (v := Int32.ofInt a0) (by decide +kernel) (by rfl) ?_
  refine ev_r_if (pc := 1) (q := .lt) (o := 22) (t := 23) (c := a0 < 0) (by decide +kernel) (ev_k_lt ha0 ev_rng0) (by decide +kernel) ?_ ?_
  · intro c1
    refine ev_r_iconst (pc := 23) (k := 0) (by decide +kernel) ?_
    exact ev_r_ireturn (pc := 24) (x := 0) (v := Int32.ofInt 0) (ty := .boolean) (by decide : ev_bl 0) (by decide +kernel) (by decide +kernel) (ev_ret_bl (by decide : ev_bl 0)) rfl
  · intro c1
    refine ev_r_iload_n (pc := 4) (k := 1) (v := Int32.ofInt a0) (by decide +kernel) (by rfl) ?_
    refine ev_r_aload_n (pc := 5) (k := 0) (v := .ref k) trivial (by decide +kernel) (by rfl) ?_
    refine ev_r_getI (pc := 6) (y := 60) (ci := 5) (f := 11) (fin := 0) (by decide +kernel) (by decide +kernel) (by exact hk) rfl ?_
    intro x2 hx2
    refine ev_r_icmp (pc := 9) (q := .ge) (o := 14) (t := 23) (c := x2 ≤ a0) (by decide +kernel) (ev_k_ge ha0 hx2) (by decide +kernel) ?_ ?_
    · intro c3
      refine ev_r_iconst (pc := 23) (k := 0) (by decide +kernel) ?_
      exact ev_r_ireturn (pc := 24) (x := 0) (v := Int32.ofInt 0) (ty := .boolean) (by decide : ev_bl 0) (by decide +kernel) (by decide +kernel) (ev_ret_bl (by decide : ev_bl 0)) rfl
    · intro c3
      refine ev_r_iload_n (pc := 12) (k := 1) (v := Int32.ofInt a0) (by decide +kernel) (by rfl) ?_
      refine ev_r_sipush (pc := 13) (k := 400) (by decide +kernel) (by decide +kernel) ?_
      refine ev_r_icmp (pc := 16) (q := .ge) (o := 7) (t := 23) (c := 400 ≤ a0) (by decide +kernel) (ev_k_ge ha0 (by decide)) (by decide +kernel) ?_ ?_
      · intro c4
        refine ev_r_iconst (pc := 23) (k := 0) (by decide +kernel) ?_
        exact ev_r_ireturn (pc := 24) (x := 0) (v := Int32.ofInt 0) (ty := .boolean) (by decide : ev_bl 0) (by decide +kernel) (by decide +kernel) (ev_ret_bl (by decide : ev_bl 0)) rfl
      · intro c4
        refine ev_r_iconst (pc := 19) (k := 1) (by decide +kernel) ?_
        refine ev_r_goto (pc := 20) (o := 4) (t := 24) (by decide +kernel) (by decide +kernel) ?_
        exact ev_r_ireturn (pc := 24) (x := 1) (v := Int32.ofInt 1) (ty := .boolean) (by decide : ev_bl 1) (by decide +kernel) (by decide +kernel) (ev_ret_bl (by decide : ev_bl 1)) rfl
/-- MendBench$Facts.unite([JI[JI)V -/
def jm_37 (Q : Nat) (a0 : Nat) (a1 : Int) (a2 : Nat) (a3 : Int) (S : ev_St) : Option ((Unit) × ev_St) := if a1 < 0 then (some ((), S)) else (ev_ck (2 * a1) fun x2 => ev_ck (x2 + 1) fun x3 => ev_if (a0 ≠ 0) (ev_b (ev_aln ((a0 - 1)) : Int) fun x5 => if x5 ≤ x3 then (some ((), S)) else (if a3 < 0 then (some ((), S)) else (ev_ck (2 * a3) fun x8 => ev_ck (x8 + 1) fun x9 => ev_if (a2 ≠ 0) (ev_b (ev_aln ((a2 - 1)) : Int) fun x11 => if x11 ≤ x9 then (some ((), S)) else (ev_ck (2 * a1) fun x13 => ev_if (a0 ≠ 0) (ev_if ((0 : Int) ≤ x13 ∧ x13 < (ev_aln ((a0 - 1)) : Int)) (ev_b (S.2.1 ((a0 - 1)) (Int.toNat x13)) fun y15 => ev_ck (2 * a3) fun x16 => ev_if (a2 ≠ 0) (ev_if ((0 : Int) ≤ x16 ∧ x16 < (ev_aln ((a2 - 1)) : Int)) (ev_b (S.2.1 ((a2 - 1)) (Int.toNat x16)) fun y18 => ev_b (y15 ||| y18) fun y19 => ev_if (a0 ≠ 0) (ev_if ((0 : Int) ≤ x13 ∧ x13 < (ev_aln ((a0 - 1)) : Int)) (ev_b (ev_pL S ((a0 - 1)) (Int.toNat x13) y19) fun s21 => ev_ck (2 * a1) fun x22 => ev_ck (x22 + 1) fun x23 => ev_if (a0 ≠ 0) (ev_if ((0 : Int) ≤ x23 ∧ x23 < (ev_aln ((a0 - 1)) : Int)) (ev_b (s21.2.1 ((a0 - 1)) (Int.toNat x23)) fun y25 => ev_ck (2 * a3) fun x26 => ev_ck (x26 + 1) fun x27 => ev_if (a2 ≠ 0) (ev_if ((0 : Int) ≤ x27 ∧ x27 < (ev_aln ((a2 - 1)) : Int)) (ev_b (s21.2.1 ((a2 - 1)) (Int.toNat x27)) fun y29 => ev_b (y25 ||| y29) fun y30 => ev_if (a0 ≠ 0) (ev_if ((0 : Int) ≤ x23 ∧ x23 < (ev_aln ((a0 - 1)) : Int)) (ev_b (ev_pL s21 ((a0 - 1)) (Int.toNat x23) y30) fun s32 => some ((), s32)))))))))))))))))))
theorem jt_37 (d : Nat) (hd : 1 ≤ d) (Q : Nat) (a0 : Nat) (a1 : Int) (a2 : Nat) (a3 : Int) (ha0 : a0 = 0 ∨ ev_isAb (a0 - 1) 2 .long = true) (ha1 : ev_rng a1) (ha2 : a2 = 0 ∨ ev_isAb (a2 - 1) 2 .long = true) (ha3 : ev_rng a3) (S : ev_St) (x : Unit) (S' : ev_St) (hJ : jm_37 Q a0 a1 a2 a3 S = some (x, S')) : ev_Ref d 37 [.ref 221, ev_nv a0, .int (Int32.ofInt a1), ev_nv a2, .int (Int32.ofInt a3)] S (ev_eU x) S' (ev_PU x) := by
  obtain ⟨d, rfl⟩ : ∃ e, d = e + 1 := ⟨d - 1, by omega⟩
  refine ev_ref_of (P := ev_PU) (lv := [(0, .ref 221), (1, ev_nv a0), (2, .int (Int32.ofInt a1)), (3, ev_nv a2), (4, .int (Int32.ofInt a3))]) (by decide +kernel) (by (try simp only [ev_sum, ev_nv_cat]); first | done | rfl) (by (try simp only [lv_args, ev_nv_cat]); first | done | rfl) ?_ x S' hJ
  unfold jm_37
  refine ev_r_iload_n (pc := 0) (k := 2) (v := Int32.ofInt a1) (by decide +kernel) (by rfl) ?_
  refine ev_r_if (pc := 1) (q := .lt) (o := 61) (t := 62) (c := a1 < 0) (by decide +kernel) (ev_k_lt ha1 ev_rng0) (by decide +kernel) ?_ ?_
  · intro c1
    exact ev_r_return (pc := 62) (x := ()) trivial (by decide +kernel) (by decide +kernel) rfl
  · intro c1
    refine ev_r_iconst (pc := 4) (k := 2) (by decide +kernel) ?_
    refine ev_r_iload_n (pc := 5) (k := 2) (v := Int32.ofInt a1) (by decide +kernel) (by rfl) ?_
    refine ev_r_imul (pc := 6) (by decide +kernel) ?_
    intro x2 hx2
    refine ev_r_iconst (pc := 7) (k := 1) (by decide +kernel) ?_
    refine ev_r_iadd (pc := 8) (by decide +kernel) ?_
    intro x3 hx3
    refine ev_r_aload_n (pc := 9) (k := 1) (v := ev_nv a0) (ev_isR_nv _) (by decide +kernel) (by rfl) ?_
    refine ev_r_chk ?_
    intro c4
    refine ev_r_dr (r := a0) (fun v => [v, .int (Int32.ofInt x3)]) c4 ?_
    refine ev_r_alen (pc := 10) (kd := 2) (ty := .long) (Or.inr rfl) (by decide +kernel) (by exact (ha0.resolve_left c4)) ?_
    intro x5 hx5
    refine ev_r_icmp (pc := 11) (q := .ge) (o := 51) (t := 62) (c := x5 ≤ x3) (by decide +kernel) (ev_k_ge hx3 hx5) (by decide +kernel) ?_ ?_
    · intro c6
      exact ev_r_return (pc := 62) (x := ()) trivial (by decide +kernel) (by decide +kernel) rfl
    · intro c6
      refine ev_r_iload (pc := 14) (k := 4) (v := Int32.ofInt a3) (by decide +kernel) (by rfl) ?_
      refine ev_r_if (pc := 16) (q := .lt) (o := 46) (t := 62) (c := a3 < 0) (by decide +kernel) (ev_k_lt ha3 ev_rng0) (by decide +kernel) ?_ ?_
      · intro c7
        exact ev_r_return (pc := 62) (x := ()) trivial (by decide +kernel) (by decide +kernel) rfl
      · intro c7
        refine ev_r_iconst (pc := 19) (k := 2) (by decide +kernel) ?_
        refine ev_r_iload (pc := 20) (k := 4) (v := Int32.ofInt a3) (by decide +kernel) (by rfl) ?_
        refine ev_r_imul (pc := 22) (by decide +kernel) ?_
        intro x8 hx8
        refine ev_r_iconst (pc := 23) (k := 1) (by decide +kernel) ?_
        refine ev_r_iadd (pc := 24) (by decide +kernel) ?_
        intro x9 hx9
        refine ev_r_aload_n (pc := 25) (k := 3) (v := ev_nv a2) (ev_isR_nv _) (by decide +kernel) (by rfl) ?_
        refine ev_r_chk ?_
        intro c10
        refine ev_r_dr (r := a2) (fun v => [v, .int (Int32.ofInt x9)]) c10 ?_
        refine ev_r_alen (pc := 26) (kd := 2) (ty := .long) (Or.inr rfl) (by decide +kernel) (by exact (ha2.resolve_left c10)) ?_
        intro x11 hx11
        refine ev_r_icmp (pc := 27) (q := .ge) (o := 35) (t := 62) (c := x11 ≤ x9) (by decide +kernel) (ev_k_ge hx9 hx11) (by decide +kernel) ?_ ?_
        · intro c12
          exact ev_r_return (pc := 62) (x := ()) trivial (by decide +kernel) (by decide +kernel) rfl
        · intro c12
          refine ev_r_aload_n (pc := 30) (k := 1) (v := ev_nv a0) (ev_isR_nv _) (by decide +kernel) (by rfl) ?_
          refine ev_r_iconst (pc := 31) (k := 2) (by decide +kernel) ?_
          refine ev_r_iload_n (pc := 32) (k := 2) (v := Int32.ofInt a1) (by decide +kernel) (by rfl) ?_
          refine ev_r_imul (pc := 33) (by decide +kernel) ?_
          intro x13 hx13
          refine ev_r_dup2 (pc := 34) rfl (ev_nv_cat _) (by decide +kernel) ?_
          refine ev_r_chk ?_
          intro c14
          refine ev_r_dr (r := a0) (fun v => [.int (Int32.ofInt x13), v, .int (Int32.ofInt x13), ev_nv a0]) c14 ?_
          refine ev_r_lald (pc := 35) hx13 (by decide +kernel) (by exact (ha0.resolve_left c14)) ?_
          intro y15
          refine ev_r_aload_n (pc := 36) (k := 3) (v := ev_nv a2) (ev_isR_nv _) (by decide +kernel) (by rfl) ?_
          refine ev_r_iconst (pc := 37) (k := 2) (by decide +kernel) ?_
          refine ev_r_iload (pc := 38) (k := 4) (v := Int32.ofInt a3) (by decide +kernel) (by rfl) ?_
          refine ev_r_imul (pc := 40) (by decide +kernel) ?_
          intro x16 hx16
          refine ev_r_chk ?_
          intro c17
          refine ev_r_dr (r := a2) (fun v => [.int (Int32.ofInt x16), v, .long y15, .int (Int32.ofInt x13), ev_nv a0]) c17 ?_
          refine ev_r_lald (pc := 41) hx16 (by decide +kernel) (by exact (ha2.resolve_left c17)) ?_
          intro y18
          refine ev_r_toL (pc := 42) (i := .lor) (len := 1) (pc' := 43) (by decide +kernel) rfl ?_
          intro y19
          refine ev_r_chk ?_
          intro c20
          refine ev_r_dr (r := a0) (fun v => [.long y19, .int (Int32.ofInt x13), v]) c20 ?_
          refine ev_r_last (pc := 43) hx13 (by decide +kernel) (by exact (ha0.resolve_left c20)) ?_
          intro s21
          refine ev_r_aload_n (pc := 44) (k := 1) (v := ev_nv a0) (ev_isR_nv _) (by decide +kernel) (by rfl) ?_
          refine ev_r_iconst (pc := 45) (k := 2) (by decide +kernel) ?_
          refine ev_r_iload_n (pc := 46) (k := 2) (v := Int32.ofInt a1) (by decide +kernel) (by rfl) ?_
          refine ev_r_imul (pc := 47) (by decide +kernel) ?_
          intro x22 hx22
          refine ev_r_iconst (pc := 48) (k := 1) (by decide +kernel) ?_
          refine ev_r_iadd (pc := 49) (by decide +kernel) ?_
          intro x23 hx23
          refine ev_r_dup2 (pc := 50) rfl (ev_nv_cat _) (by decide +kernel) ?_
          refine ev_r_chk ?_
          intro c24
          refine ev_r_dr (r := a0) (fun v => [.int (Int32.ofInt x23), v, .int (Int32.ofInt x23), ev_nv a0]) c24 ?_
          refine ev_r_lald (pc := 51) hx23 (by decide +kernel) (by exact (ha0.resolve_left c24)) ?_
          intro y25
          refine ev_r_aload_n (pc := 52) (k := 3) (v := ev_nv a2) (ev_isR_nv _) (by decide +kernel) (by rfl) ?_
          refine ev_r_iconst (pc := 53) (k := 2) (by decide +kernel) ?_
          refine ev_r_iload (pc := 54) (k := 4) (v := Int32.ofInt a3) (by decide +kernel) (by rfl) ?_
          refine ev_r_imul (pc := 56) (by decide +kernel) ?_
          intro x26 hx26
          refine ev_r_iconst (pc := 57) (k := 1) (by decide +kernel) ?_
          refine ev_r_iadd (pc := 58) (by decide +kernel) ?_
          intro x27 hx27
          refine ev_r_chk ?_
          intro c28
          refine ev_r_dr (r := a2) (fun v => [.int (Int32.ofInt x27), v, .long y25, .int (Int32.ofInt x23), ev_nv a0]) c28 ?_
          refine ev_r_lald (pc := 59) hx27 (by decide +kernel) (by exact (ha2.resolve_left c28)) ?_
          intro y29
          refine ev_r_toL (pc := 60) (i := .lor) (len := 1) (pc' := 61) (by decide +kernel) rfl ?_
          intro y30
          refine ev_r_chk ?_
          intro c31
          refine ev_r_dr (r := a0) (fun v => [.long y30, .int (Int32.ofInt x23), v]) c31 ?_
          refine ev_r_last (pc := 61) hx23 (by decide +kernel) (by exact (ha0.resolve_left c31)) ?_
          intro s32
          exact ev_r_return (pc := 62) (x := ()) trivial (by decide +kernel) (by decide +kernel) rfl
/-- MendBench$Facts.learnRepeat(I)V -/
def jm_32 (Q : Nat) (a0 : Int) (S : ev_St) : Option ((Unit) × ev_St) := ev_b (S.2.2.1 221 9) fun r1 => ev_if (r1 ≠ 0) (ev_if ((0 : Int) ≤ a0 ∧ a0 < (ev_aln (((r1 - 1) + 4)) : Int)) (ev_b (S.1 (((r1 - 1) + 4)) (Int.toNat a0)) fun x3 => ev_b (S.2.2.1 221 9) fun r4 => ev_if (r4 ≠ 0) (ev_bd (jm_59 Q ((r4 - 1)) x3 S) fun x7 s6 => if x7 ≠ 0 then (ev_b (s6.2.2.1 221 9) fun r9 => ev_if (r9 ≠ 0) (ev_if ((0 : Int) ≤ a0 ∧ a0 < (ev_aln (((r9 - 1) + 2)) : Int)) (ev_b (s6.1 (((r9 - 1) + 2)) (Int.toNat a0)) fun x11 => ev_b (s6.2.2.1 221 9) fun r12 => ev_if (r12 ≠ 0) (ev_if ((0 : Int) ≤ a0 ∧ a0 < (ev_aln (((r12 - 1) + 3)) : Int)) (ev_b (s6.1 (((r12 - 1) + 3)) (Int.toNat a0)) fun x14 => ev_jn (fun (x15 : Int) (x16 : Int) (x17 : Int) (s24 : ev_St) => ev_if ((0 : Int) ≤ x3 ∧ x3 < (ev_aln 222 : Int)) (ev_b (s24.1 222 (Int.toNat x3)) fun x25 => ev_ck (x25 * x15) fun x26 => ev_b (ev_imin 1000000 x26) fun x27 => ev_if ((0 : Int) ≤ a0 ∧ a0 < (ev_aln 222 : Int)) (ev_b (ev_pI s24 222 (Int.toNat a0) x27) fun s28 => ev_jn (fun (x29 : Int) (x30 : Int) (s38 : ev_St) => ev_b (ev_imin 1000000 x30) fun x39 => ev_if ((0 : Int) ≤ a0 ∧ a0 < (ev_aln 223 : Int)) (ev_b (ev_pI s38 223 (Int.toNat a0) x39) fun s40 => ev_jn (fun  (s48 : ev_St) => ev_jn (fun  (s54 : ev_St) => ev_bd (jm_37 Q ((227 + 1)) a0 ((227 + 1)) x3 s54) fun _ s55 => if x29 = 0 then (some ((), s55)) else (ev_bd (jm_37 Q ((227 + 1)) a0 ((226 + 1)) x3 s55) fun _ s57 => some ((), s57))) fun K206 => if x16 = 0 then (K206  s48) else (ev_jn (fun  (s64 : ev_St) => ev_bd (jm_37 Q ((225 + 1)) a0 ((225 + 1)) x3 s64) fun _ s65 => ev_bd (jm_37 Q ((226 + 1)) a0 ((226 + 1)) x3 s65) fun _ s66 => if x29 = 0 then (K206  s66) else (ev_bd (jm_37 Q ((226 + 1)) a0 ((225 + 1)) x3 s66) fun _ s68 => K206  s68)) fun K159 => if x15 ≤ 1 then (K159  s48) else (ev_if ((0 : Int) ≤ x3 ∧ x3 < (ev_aln 222 : Int)) (ev_b (s48.1 222 (Int.toNat x3)) fun x70 => if x70 ≠ 0 then (K206  s48) else (K159  s48))))) fun K140 => if x16 = 0 then (K140  s40) else (ev_bd (jm_37 Q ((224 + 1)) a0 ((224 + 1)) x3 s40) fun _ s73 => K140  s73))) fun K106 => if x17 = 0 then (ev_if ((0 : Int) ≤ x3 ∧ x3 < (ev_aln 223 : Int)) (ev_b (s28.1 223 (Int.toNat x3)) fun x75 => ev_ck (x75 + 1) fun x76 => ev_ck (x76 * x16) fun x77 => K106 x17 x77 s28)) else (ev_if ((0 : Int) ≤ x3 ∧ x3 < (ev_aln 223 : Int)) (ev_b (s28.1 223 (Int.toNat x3)) fun x78 => ev_ck (x15 + 1) fun x79 => ev_ck (x78 * x79) fun x80 => ev_ck (x80 + 2) fun x81 => K106 x17 x81 s28))))) fun K54 => if x14 ≠ (-1) then (K54 x11 x14 0 s6) else (K54 x11 x14 1 s6)))))) else (some ((), s6)))))
theorem jt_32 (d : Nat) (hd : 2 ≤ d) (Q : Nat) (a0 : Int) (ha0 : ev_rng a0) (S : ev_St) (x : Unit) (S' : ev_St) (hJ : jm_32 Q a0 S = some (x, S')) : ev_Ref d 32 [.ref 221, .int (Int32.ofInt a0)] S (ev_eU x) S' (ev_PU x) := by
  obtain ⟨d, rfl⟩ : ∃ e, d = e + 1 := ⟨d - 1, by omega⟩
  refine ev_ref_of (P := ev_PU) (lv := [(0, .ref 221), (1, .int (Int32.ofInt a0))]) (by decide +kernel) (by (try simp only [ev_sum, ev_nv_cat]); first | done | rfl) (by (try simp only [lv_args, ev_nv_cat]); first | done | rfl) ?_ x S' hJ
  unfold jm_32
  refine ev_r_aload_n (pc := 0) (k := 0) (v := .ref 221) trivial (by decide +kernel) (by rfl) ?_
  refine ev_r_getR (pc := 1) (y := 47) (ci := 2) (f := 9) (fin := 0) (t := 5) (by decide +kernel) (by decide +kernel) (by exact ev_ob_221) rfl rfl ?_
  intro r1 hr1
  have hr1 : r1 = 0 ∨ ev_isOb (r1 - 1) 5 = true := hr1
  refine ev_r_chk ?_
  intro c2
  refine ev_r_dr (r := r1) (fun v => [v]) c2 ?_
  refine ev_r_getC (pc := 4) (y := 154) (ci := 5) (f := 3) (fin := 2) (k' := ((r1 - 1) + 4)) (by decide +kernel) (by decide +kernel) (by exact (hr1.resolve_left c2)) rfl rfl ?_
  refine ev_r_iload_n (pc := 7) (k := 1) (v := Int32.ofInt a0) (by decide +kernel) (by rfl) ?_
  refine ev_r_iald (pc := 8) ha0 (by decide +kernel) (by exact (ev_fo_5_3 (hr1.resolve_left c2))) ?_
  intro x3 hx3
  refine ev_r_istore_n (pc := 9) (k := 2) (by decide +kernel) (by decide +kernel) rfl ?_
  refine ev_r_aload_n (pc := 10) (k := 0) (v := .ref 221) trivial (by decide +kernel) (by exact (ev_l1 (by rfl) (by decide) (by decide))) ?_
  refine ev_r_getR (pc := 11) (y := 47) (ci := 2) (f := 9) (fin := 0) (t := 5) (by decide +kernel) (by decide +kernel) (by exact ev_ob_221) rfl rfl ?_
  intro r4 hr4
  have hr4 : r4 = 0 ∨ ev_isOb (r4 - 1) 5 = true := hr4
  refine ev_r_iload_n (pc := 14) (k := 2) (v := Int32.ofInt x3) (by decide +kernel) (by exact ev_lk_st1_self) ?_
  refine ev_r_chk ?_
  intro c5
  refine ev_r_dr (r := r4) (fun v => [.int (Int32.ofInt x3), v]) c5 ?_
  refine ev_r_virt (pc := 15) (y := 63) (mi := 59) (na := 1) (k := (r4 - 1)) (as := [.int (Int32.ofInt x3)]) (rest := []) (encc := ev_oI) (Q := ev_bl) (fun x S1 h => jt_59 d (by omega) Q ((r4 - 1)) x3 (hr4.resolve_left c5) hx3 S x S1 h) (by exact (hr4.resolve_left c5)) (by decide +kernel) (by decide +kernel) (by decide +kernel) (by decide +kernel) rfl (by (try simp only [ev_sum, ev_nv_cat]); first | done | rfl) ?_
  intro x7 s6 hx7
  replace hx7 := ev_bl_rng hx7
  show ev_w _ _ _ _ _ [.int (Int32.ofInt x7)] _ _ _ _
  refine ev_r_if (pc := 18) (q := .ne) (o := 4) (t := 22) (c := x7 ≠ 0) (by decide +kernel) (ev_k_ne hx7 ev_rng0) (by decide +kernel) ?_ ?_
  · intro c8
    refine ev_r_aload_n (pc := 22) (k := 0) (v := .ref 221) trivial (by decide +kernel) (by exact (ev_l1 (by rfl) (by decide) (by decide))) ?_
    refine ev_r_getR (pc := 23) (y := 47) (ci := 2) (f := 9) (fin := 0) (t := 5) (by decide +kernel) (by decide +kernel) (by exact ev_ob_221) rfl rfl ?_
    intro r9 hr9
    have hr9 : r9 = 0 ∨ ev_isOb (r9 - 1) 5 = true := hr9
    refine ev_r_chk ?_
    intro c10
    refine ev_r_dr (r := r9) (fun v => [v]) c10 ?_
    refine ev_r_getC (pc := 26) (y := 157) (ci := 5) (f := 1) (fin := 2) (k' := ((r9 - 1) + 2)) (by decide +kernel) (by decide +kernel) (by exact (hr9.resolve_left c10)) rfl rfl ?_
    refine ev_r_iload_n (pc := 29) (k := 1) (v := Int32.ofInt a0) (by decide +kernel) (by exact (ev_lk_st1 (by rfl) (by decide) rfl)) ?_
    refine ev_r_iald (pc := 30) ha0 (by decide +kernel) (by exact (ev_fo_5_1 (hr9.resolve_left c10))) ?_
    intro x11 hx11
    refine ev_r_istore_n (pc := 31) (k := 3) (by decide +kernel) (by decide +kernel) rfl ?_
    refine ev_r_aload_n (pc := 32) (k := 0) (v := .ref 221) trivial (by decide +kernel) (by exact (ev_l1 (ev_l1 (by rfl) (by decide) (by decide)) (by decide) (by decide))) ?_
    refine ev_r_getR (pc := 33) (y := 47) (ci := 2) (f := 9) (fin := 0) (t := 5) (by decide +kernel) (by decide +kernel) (by exact ev_ob_221) rfl rfl ?_
    intro r12 hr12
    have hr12 : r12 = 0 ∨ ev_isOb (r12 - 1) 5 = true := hr12
    refine ev_r_chk ?_
    intro c13
    refine ev_r_dr (r := r12) (fun v => [v]) c13 ?_
    refine ev_r_getC (pc := 36) (y := 160) (ci := 5) (f := 2) (fin := 2) (k' := ((r12 - 1) + 3)) (by decide +kernel) (by decide +kernel) (by exact (hr12.resolve_left c13)) rfl rfl ?_
    refine ev_r_iload_n (pc := 39) (k := 1) (v := Int32.ofInt a0) (by decide +kernel) (by exact (ev_l1 (ev_lk_st1 (by rfl) (by decide) rfl) (by decide) (by decide))) ?_
    refine ev_r_iald (pc := 40) ha0 (by decide +kernel) (by exact (ev_fo_5_2 (hr12.resolve_left c13))) ?_
    intro x14 hx14
    refine ev_r_istore (pc := 41) (k := 4) (by decide +kernel) (by decide +kernel) rfl ?_
    refine ev_r_iload (pc := 43) (k := 4) (v := Int32.ofInt x14) (by decide +kernel) (by exact ev_lk_st1_self) ?_
    refine ev_r_iconst (pc := 45) (k := -1) (by decide +kernel) ?_
    refine ev_r_jn (Q := fun K => ∀ (x15 : Int) (hx15 : ev_rng x15), ∀ (x16 : Int) (hx16 : ev_rng x16), ∀ (x17 : Int) (hx17 : ev_rng x17), ∀ (s24 : ev_St) (w18 : List (Nat × Value)), ev_lk w18 0 = some (.ref 221) → ev_lk w18 1 = some (.int (Int32.ofInt a0)) → ev_lk w18 2 = some (.int (Int32.ofInt x3)) → ev_lk w18 3 = some (.int (Int32.ofInt x15)) → ev_lk w18 4 = some (.int (Int32.ofInt x16)) → ev_w none (ev_Mof 32) d 54 w18 [.int (Int32.ofInt x17)] s24 (K x15 x16 x17 s24) ev_eU ev_PU) ?_ ?_
    · intro x15 hx15 x16 hx16 x17 hx17 s24 w18 e19 e20 e21 e22 e23
      refine ev_r_istore (pc := 54) (k := 5) (by decide +kernel) (by decide +kernel) rfl ?_
      refine ev_r_aload_n (pc := 56) (k := 0) (v := .ref 221) trivial (by decide +kernel) (by exact (ev_l1 e19 (by decide) (by decide))) ?_
      refine ev_r_getC (pc := 57) (y := 11) (ci := 2) (f := 0) (fin := 1) (k' := 222) (by decide +kernel) (by decide +kernel) (by exact ev_ob_221) rfl rfl ?_
      refine ev_r_iload_n (pc := 60) (k := 1) (v := Int32.ofInt a0) (by decide +kernel) (by exact (ev_l1 e20 (by decide) (by decide))) ?_
      refine ev_r_ldc (pc := 61) (y := 163) (k := 1000000) (by decide +kernel) (by decide +kernel) ?_
      refine ev_r_aload_n (pc := 63) (k := 0) (v := .ref 221) trivial (by decide +kernel) (by exact (ev_l1 e19 (by decide) (by decide))) ?_
      refine ev_r_getC (pc := 64) (y := 11) (ci := 2) (f := 0) (fin := 1) (k' := 222) (by decide +kernel) (by decide +kernel) (by exact ev_ob_221) rfl rfl ?_
      refine ev_r_iload_n (pc := 67) (k := 2) (v := Int32.ofInt x3) (by decide +kernel) (by exact (ev_l1 e21 (by decide) (by decide))) ?_
      refine ev_r_iald (pc := 68) hx3 (by decide +kernel) (by exact ev_ab_222) ?_
      intro x25 hx25
      refine ev_r_iload_n (pc := 69) (k := 3) (v := Int32.ofInt x15) (by decide +kernel) (by exact (ev_l1 e22 (by decide) (by decide))) ?_
      refine ev_r_imul (pc := 70) (by decide +kernel) ?_
      intro x26 hx26
      refine ev_r_mm1 (pc := 71) (y := 164) (kd := 9) (Or.inl rfl) (by decide +kernel) (by decide +kernel) (by (try simp only [ev_sum, ev_nv_cat]); first | done | rfl) ?_
      intro x27 hx27
      refine ev_r_iast (pc := 74) hx27 ha0 (by decide +kernel) (by exact ev_ab_222) ?_
      intro s28
      refine ev_r_iload (pc := 75) (k := 5) (v := Int32.ofInt x17) (by decide +kernel) (by exact ev_lk_st1_self) ?_
      refine ev_r_jn (Q := fun K => ∀ (x29 : Int) (hx29 : ev_rng x29), ∀ (x30 : Int) (hx30 : ev_rng x30), ∀ (s38 : ev_St) (w31 : List (Nat × Value)), ev_lk w31 0 = some (.ref 221) → ev_lk w31 1 = some (.int (Int32.ofInt a0)) → ev_lk w31 2 = some (.int (Int32.ofInt x3)) → ev_lk w31 3 = some (.int (Int32.ofInt x15)) → ev_lk w31 4 = some (.int (Int32.ofInt x16)) → ev_lk w31 5 = some (.int (Int32.ofInt x29)) → ev_w none (ev_Mof 32) d 106 w31 [.int (Int32.ofInt x30)] s38 (K x29 x30 s38) ev_eU ev_PU) ?_ ?_
      · intro x29 hx29 x30 hx30 s38 w31 e32 e33 e34 e35 e36 e37
        refine ev_r_istore (pc := 106) (k := 6) (by decide +kernel) (by decide +kernel) rfl ?_
        refine ev_r_aload_n (pc := 108) (k := 0) (v := .ref 221) trivial (by decide +kernel) (by exact (ev_l1 e32 (by decide) (by decide))) ?_
        refine ev_r_getC (pc := 109) (y := 17) (ci := 2) (f := 1) (fin := 1) (k' := 223) (by decide +kernel) (by decide +kernel) (by exact ev_ob_221) rfl rfl ?_
        refine ev_r_iload_n (pc := 112) (k := 1) (v := Int32.ofInt a0) (by decide +kernel) (by exact (ev_l1 e33 (by decide) (by decide))) ?_
        refine ev_r_ldc (pc := 113) (y := 163) (k := 1000000) (by decide +kernel) (by decide +kernel) ?_
        refine ev_r_iload (pc := 115) (k := 6) (v := Int32.ofInt x30) (by decide +kernel) (by exact ev_lk_st1_self) ?_
        refine ev_r_mm1 (pc := 117) (y := 164) (kd := 9) (Or.inl rfl) (by decide +kernel) (by decide +kernel) (by (try simp only [ev_sum, ev_nv_cat]); first | done | rfl) ?_
        intro x39 hx39
        refine ev_r_iast (pc := 120) hx39 ha0 (by decide +kernel) (by exact ev_ab_223) ?_
        intro s40
        refine ev_r_iload (pc := 121) (k := 4) (v := Int32.ofInt x16) (by decide +kernel) (by exact (ev_l1 e36 (by decide) (by decide))) ?_
        refine ev_r_jn (Q := fun K => ∀ (s48 : ev_St) (w41 : List (Nat × Value)), ev_lk w41 0 = some (.ref 221) → ev_lk w41 1 = some (.int (Int32.ofInt a0)) → ev_lk w41 2 = some (.int (Int32.ofInt x3)) → ev_lk w41 3 = some (.int (Int32.ofInt x15)) → ev_lk w41 4 = some (.int (Int32.ofInt x16)) → ev_lk w41 5 = some (.int (Int32.ofInt x29)) → ev_w none (ev_Mof 32) d 140 w41 [] s48 (K  s48) ev_eU ev_PU) ?_ ?_
        · intro  s48 w41 e42 e43 e44 e45 e46 e47
          refine ev_r_iload (pc := 140) (k := 4) (v := Int32.ofInt x16) (by decide +kernel) (by exact e46) ?_
          refine ev_r_jn (Q := fun K => ∀ (s54 : ev_St) (w49 : List (Nat × Value)), ev_lk w49 0 = some (.ref 221) → ev_lk w49 1 = some (.int (Int32.ofInt a0)) → ev_lk w49 2 = some (.int (Int32.ofInt x3)) → ev_lk w49 5 = some (.int (Int32.ofInt x29)) → ev_w none (ev_Mof 32) d 206 w49 [] s54 (K  s54) ev_eU ev_PU) ?_ ?_
          · intro  s54 w49 e50 e51 e52 e53
            refine ev_r_aload_n (pc := 206) (k := 0) (v := .ref 221) trivial (by decide +kernel) (by exact e50) ?_
            refine ev_r_aload_n (pc := 207) (k := 0) (v := .ref 221) trivial (by decide +kernel) (by exact e50) ?_
            refine ev_r_getC (pc := 208) (y := 30) (ci := 2) (f := 5) (fin := 1) (k' := 227) (by decide +kernel) (by decide +kernel) (by exact ev_ob_221) rfl rfl ?_
            refine ev_r_iload_n (pc := 211) (k := 1) (v := Int32.ofInt a0) (by decide +kernel) (by exact e51) ?_
            refine ev_r_aload_n (pc := 212) (k := 0) (v := .ref 221) trivial (by decide +kernel) (by exact e50) ?_
            refine ev_r_getC (pc := 213) (y := 30) (ci := 2) (f := 5) (fin := 1) (k' := 227) (by decide +kernel) (by decide +kernel) (by exact ev_ob_221) rfl rfl ?_
            refine ev_r_iload_n (pc := 216) (k := 2) (v := Int32.ofInt x3) (by decide +kernel) (by exact e52) ?_
            refine ev_r_virt (pc := 217) (y := 170) (mi := 37) (na := 4) (k := 221) (as := [ev_nv ((227 + 1)), .int (Int32.ofInt a0), ev_nv ((227 + 1)), .int (Int32.ofInt x3)]) (rest := []) (encc := ev_oU) (Q := ev_PU) (fun x S1 h => jt_37 d (by omega) Q ((227 + 1)) a0 ((227 + 1)) x3 (by exact (Or.inr ev_ab_227)) ha0 (by exact (Or.inr ev_ab_227)) hx3 s54 x S1 h) (by exact ev_ob_221) (by decide +kernel) (by decide +kernel) (by decide +kernel) (by decide +kernel) rfl (by (try simp only [ev_sum, ev_nv_cat]); first | done | rfl) ?_
            intro _ s55 _
            show ev_w _ _ _ _ _ [] _ _ _ _
            refine ev_r_iload (pc := 220) (k := 5) (v := Int32.ofInt x29) (by decide +kernel) (by exact e53) ?_
            refine ev_r_if (pc := 222) (q := .eq) (o := 17) (t := 239) (c := x29 = 0) (by decide +kernel) (ev_k_eq hx29 ev_rng0) (by decide +kernel) ?_ ?_
            · intro c56
              exact ev_r_return (pc := 239) (x := ()) trivial (by decide +kernel) (by decide +kernel) rfl
            · intro c56
              refine ev_r_aload_n (pc := 225) (k := 0) (v := .ref 221) trivial (by decide +kernel) (by exact e50) ?_
              refine ev_r_aload_n (pc := 226) (k := 0) (v := .ref 221) trivial (by decide +kernel) (by exact e50) ?_
              refine ev_r_getC (pc := 227) (y := 30) (ci := 2) (f := 5) (fin := 1) (k' := 227) (by decide +kernel) (by decide +kernel) (by exact ev_ob_221) rfl rfl ?_
              refine ev_r_iload_n (pc := 230) (k := 1) (v := Int32.ofInt a0) (by decide +kernel) (by exact e51) ?_
              refine ev_r_aload_n (pc := 231) (k := 0) (v := .ref 221) trivial (by decide +kernel) (by exact e50) ?_
              refine ev_r_getC (pc := 232) (y := 27) (ci := 2) (f := 4) (fin := 1) (k' := 226) (by decide +kernel) (by decide +kernel) (by exact ev_ob_221) rfl rfl ?_
              refine ev_r_iload_n (pc := 235) (k := 2) (v := Int32.ofInt x3) (by decide +kernel) (by exact e52) ?_
              refine ev_r_virt (pc := 236) (y := 170) (mi := 37) (na := 4) (k := 221) (as := [ev_nv ((227 + 1)), .int (Int32.ofInt a0), ev_nv ((226 + 1)), .int (Int32.ofInt x3)]) (rest := []) (encc := ev_oU) (Q := ev_PU) (fun x S1 h => jt_37 d (by omega) Q ((227 + 1)) a0 ((226 + 1)) x3 (by exact (Or.inr ev_ab_227)) ha0 (by exact (Or.inr ev_ab_226)) hx3 s55 x S1 h) (by exact ev_ob_221) (by decide +kernel) (by decide +kernel) (by decide +kernel) (by decide +kernel) rfl (by (try simp only [ev_sum, ev_nv_cat]); first | done | rfl) ?_
              intro _ s57 _
              show ev_w _ _ _ _ _ [] _ _ _ _
              exact ev_r_return (pc := 239) (x := ()) trivial (by decide +kernel) (by decide +kernel) rfl
          · intro K206 hK206
            refine ev_r_if (pc := 142) (q := .eq) (o := 64) (t := 206) (c := x16 = 0) (by decide +kernel) (ev_k_eq hx16 ev_rng0) (by decide +kernel) ?_ ?_
            · intro c58
              exact hK206  s48 _ (by exact e42) (by exact e43) (by exact e44) (by exact e47)
            · intro c58
              refine ev_r_iload_n (pc := 145) (k := 3) (v := Int32.ofInt x15) (by decide +kernel) (by exact e45) ?_
              refine ev_r_iconst (pc := 146) (k := 1) (by decide +kernel) ?_
              refine ev_r_jn (Q := fun K => ∀ (s64 : ev_St) (w59 : List (Nat × Value)), ev_lk w59 0 = some (.ref 221) → ev_lk w59 1 = some (.int (Int32.ofInt a0)) → ev_lk w59 2 = some (.int (Int32.ofInt x3)) → ev_lk w59 5 = some (.int (Int32.ofInt x29)) → ev_w none (ev_Mof 32) d 159 w59 [] s64 (K  s64) ev_eU ev_PU) ?_ ?_
              · intro  s64 w59 e60 e61 e62 e63
                refine ev_r_aload_n (pc := 159) (k := 0) (v := .ref 221) trivial (by decide +kernel) (by exact e60) ?_
                refine ev_r_aload_n (pc := 160) (k := 0) (v := .ref 221) trivial (by decide +kernel) (by exact e60) ?_
                refine ev_r_getC (pc := 161) (y := 24) (ci := 2) (f := 3) (fin := 1) (k' := 225) (by decide +kernel) (by decide +kernel) (by exact ev_ob_221) rfl rfl ?_
                refine ev_r_iload_n (pc := 164) (k := 1) (v := Int32.ofInt a0) (by decide +kernel) (by exact e61) ?_
                refine ev_r_aload_n (pc := 165) (k := 0) (v := .ref 221) trivial (by decide +kernel) (by exact e60) ?_
                refine ev_r_getC (pc := 166) (y := 24) (ci := 2) (f := 3) (fin := 1) (k' := 225) (by decide +kernel) (by decide +kernel) (by exact ev_ob_221) rfl rfl ?_
                refine ev_r_iload_n (pc := 169) (k := 2) (v := Int32.ofInt x3) (by decide +kernel) (by exact e62) ?_
                refine ev_r_virt (pc := 170) (y := 170) (mi := 37) (na := 4) (k := 221) (as := [ev_nv ((225 + 1)), .int (Int32.ofInt a0), ev_nv ((225 + 1)), .int (Int32.ofInt x3)]) (rest := []) (encc := ev_oU) (Q := ev_PU) (fun x S1 h => jt_37 d (by omega) Q ((225 + 1)) a0 ((225 + 1)) x3 (by exact (Or.inr ev_ab_225)) ha0 (by exact (Or.inr ev_ab_225)) hx3 s64 x S1 h) (by exact ev_ob_221) (by decide +kernel) (by decide +kernel) (by decide +kernel) (by decide +kernel) rfl (by (try simp only [ev_sum, ev_nv_cat]); first | done | rfl) ?_
                intro _ s65 _
                show ev_w _ _ _ _ _ [] _ _ _ _
                refine ev_r_aload_n (pc := 173) (k := 0) (v := .ref 221) trivial (by decide +kernel) (by exact e60) ?_
                refine ev_r_aload_n (pc := 174) (k := 0) (v := .ref 221) trivial (by decide +kernel) (by exact e60) ?_
                refine ev_r_getC (pc := 175) (y := 27) (ci := 2) (f := 4) (fin := 1) (k' := 226) (by decide +kernel) (by decide +kernel) (by exact ev_ob_221) rfl rfl ?_
                refine ev_r_iload_n (pc := 178) (k := 1) (v := Int32.ofInt a0) (by decide +kernel) (by exact e61) ?_
                refine ev_r_aload_n (pc := 179) (k := 0) (v := .ref 221) trivial (by decide +kernel) (by exact e60) ?_
                refine ev_r_getC (pc := 180) (y := 27) (ci := 2) (f := 4) (fin := 1) (k' := 226) (by decide +kernel) (by decide +kernel) (by exact ev_ob_221) rfl rfl ?_
                refine ev_r_iload_n (pc := 183) (k := 2) (v := Int32.ofInt x3) (by decide +kernel) (by exact e62) ?_
                refine ev_r_virt (pc := 184) (y := 170) (mi := 37) (na := 4) (k := 221) (as := [ev_nv ((226 + 1)), .int (Int32.ofInt a0), ev_nv ((226 + 1)), .int (Int32.ofInt x3)]) (rest := []) (encc := ev_oU) (Q := ev_PU) (fun x S1 h => jt_37 d (by omega) Q ((226 + 1)) a0 ((226 + 1)) x3 (by exact (Or.inr ev_ab_226)) ha0 (by exact (Or.inr ev_ab_226)) hx3 s65 x S1 h) (by exact ev_ob_221) (by decide +kernel) (by decide +kernel) (by decide +kernel) (by decide +kernel) rfl (by (try simp only [ev_sum, ev_nv_cat]); first | done | rfl) ?_
                intro _ s66 _
                show ev_w _ _ _ _ _ [] _ _ _ _
                refine ev_r_iload (pc := 187) (k := 5) (v := Int32.ofInt x29) (by decide +kernel) (by exact e63) ?_
                refine ev_r_if (pc := 189) (q := .eq) (o := 17) (t := 206) (c := x29 = 0) (by decide +kernel) (ev_k_eq hx29 ev_rng0) (by decide +kernel) ?_ ?_
                · intro c67
                  exact hK206  s66 _ (by exact e60) (by exact e61) (by exact e62) (by exact e63)
                · intro c67
                  refine ev_r_aload_n (pc := 192) (k := 0) (v := .ref 221) trivial (by decide +kernel) (by exact e60) ?_
                  refine ev_r_aload_n (pc := 193) (k := 0) (v := .ref 221) trivial (by decide +kernel) (by exact e60) ?_
                  refine ev_r_getC (pc := 194) (y := 27) (ci := 2) (f := 4) (fin := 1) (k' := 226) (by decide +kernel) (by decide +kernel) (by exact ev_ob_221) rfl rfl ?_
                  refine ev_r_iload_n (pc := 197) (k := 1) (v := Int32.ofInt a0) (by decide +kernel) (by exact e61) ?_
                  refine ev_r_aload_n (pc := 198) (k := 0) (v := .ref 221) trivial (by decide +kernel) (by exact e60) ?_
                  refine ev_r_getC (pc := 199) (y := 24) (ci := 2) (f := 3) (fin := 1) (k' := 225) (by decide +kernel) (by decide +kernel) (by exact ev_ob_221) rfl rfl ?_
                  refine ev_r_iload_n (pc := 202) (k := 2) (v := Int32.ofInt x3) (by decide +kernel) (by exact e62) ?_
                  refine ev_r_virt (pc := 203) (y := 170) (mi := 37) (na := 4) (k := 221) (as := [ev_nv ((226 + 1)), .int (Int32.ofInt a0), ev_nv ((225 + 1)), .int (Int32.ofInt x3)]) (rest := []) (encc := ev_oU) (Q := ev_PU) (fun x S1 h => jt_37 d (by omega) Q ((226 + 1)) a0 ((225 + 1)) x3 (by exact (Or.inr ev_ab_226)) ha0 (by exact (Or.inr ev_ab_225)) hx3 s66 x S1 h) (by exact ev_ob_221) (by decide +kernel) (by decide +kernel) (by decide +kernel) (by decide +kernel) rfl (by (try simp only [ev_sum, ev_nv_cat]); first | done | rfl) ?_
                  intro _ s68 _
                  show ev_w _ _ _ _ _ [] _ _ _ _
                  exact hK206  s68 _ (by exact e60) (by exact e61) (by exact e62) (by exact e63)
              · intro K159 hK159
                refine ev_r_icmp (pc := 147) (q := .le) (o := 12) (t := 159) (c := x15 ≤ 1) (by decide +kernel) (ev_k_le hx15 (by decide)) (by decide +kernel) ?_ ?_
                · intro c69
                  exact hK159  s48 _ (by exact e42) (by exact e43) (by exact e44) (by exact e47)
                · intro c69
                  refine ev_r_aload_n (pc := 150) (k := 0) (v := .ref 221) trivial (by decide +kernel) (by exact e42) ?_
                  refine ev_r_getC (pc := 151) (y := 11) (ci := 2) (f := 0) (fin := 1) (k' := 222) (by decide +kernel) (by decide +kernel) (by exact ev_ob_221) rfl rfl ?_
                  refine ev_r_iload_n (pc := 154) (k := 2) (v := Int32.ofInt x3) (by decide +kernel) (by exact e44) ?_
                  refine ev_r_iald (pc := 155) hx3 (by decide +kernel) (by exact ev_ab_222) ?_
                  intro x70 hx70
                  refine ev_r_if (pc := 156) (q := .ne) (o := 50) (t := 206) (c := x70 ≠ 0) (by decide +kernel) (ev_k_ne hx70 ev_rng0) (by decide +kernel) ?_ ?_
                  · intro c71
                    exact hK206  s48 _ (by exact e42) (by exact e43) (by exact e44) (by exact e47)
                  · intro c71
                    exact hK159  s48 _ (by exact e42) (by exact e43) (by exact e44) (by exact e47)
        · intro K140 hK140
          refine ev_r_if (pc := 123) (q := .eq) (o := 17) (t := 140) (c := x16 = 0) (by decide +kernel) (ev_k_eq hx16 ev_rng0) (by decide +kernel) ?_ ?_
          · intro c72
            exact hK140  s40 _ (by exact (ev_l1 e32 (by decide) (by decide))) (by exact (ev_l1 e33 (by decide) (by decide))) (by exact (ev_l1 e34 (by decide) (by decide))) (by exact (ev_l1 e35 (by decide) (by decide))) (by exact (ev_l1 e36 (by decide) (by decide))) (by exact (ev_lk_st1 e37 (by decide) rfl))
          · intro c72
            refine ev_r_aload_n (pc := 126) (k := 0) (v := .ref 221) trivial (by decide +kernel) (by exact (ev_l1 e32 (by decide) (by decide))) ?_
            refine ev_r_aload_n (pc := 127) (k := 0) (v := .ref 221) trivial (by decide +kernel) (by exact (ev_l1 e32 (by decide) (by decide))) ?_
            refine ev_r_getC (pc := 128) (y := 20) (ci := 2) (f := 2) (fin := 1) (k' := 224) (by decide +kernel) (by decide +kernel) (by exact ev_ob_221) rfl rfl ?_
            refine ev_r_iload_n (pc := 131) (k := 1) (v := Int32.ofInt a0) (by decide +kernel) (by exact (ev_l1 e33 (by decide) (by decide))) ?_
            refine ev_r_aload_n (pc := 132) (k := 0) (v := .ref 221) trivial (by decide +kernel) (by exact (ev_l1 e32 (by decide) (by decide))) ?_
            refine ev_r_getC (pc := 133) (y := 20) (ci := 2) (f := 2) (fin := 1) (k' := 224) (by decide +kernel) (by decide +kernel) (by exact ev_ob_221) rfl rfl ?_
            refine ev_r_iload_n (pc := 136) (k := 2) (v := Int32.ofInt x3) (by decide +kernel) (by exact (ev_l1 e34 (by decide) (by decide))) ?_
            refine ev_r_virt (pc := 137) (y := 170) (mi := 37) (na := 4) (k := 221) (as := [ev_nv ((224 + 1)), .int (Int32.ofInt a0), ev_nv ((224 + 1)), .int (Int32.ofInt x3)]) (rest := []) (encc := ev_oU) (Q := ev_PU) (fun x S1 h => jt_37 d (by omega) Q ((224 + 1)) a0 ((224 + 1)) x3 (by exact (Or.inr ev_ab_224)) ha0 (by exact (Or.inr ev_ab_224)) hx3 s40 x S1 h) (by exact ev_ob_221) (by decide +kernel) (by decide +kernel) (by decide +kernel) (by decide +kernel) rfl (by (try simp only [ev_sum, ev_nv_cat]); first | done | rfl) ?_
            intro _ s73 _
            show ev_w _ _ _ _ _ [] _ _ _ _
            exact hK140  s73 _ (by exact (ev_l1 e32 (by decide) (by decide))) (by exact (ev_l1 e33 (by decide) (by decide))) (by exact (ev_l1 e34 (by decide) (by decide))) (by exact (ev_l1 e35 (by decide) (by decide))) (by exact (ev_l1 e36 (by decide) (by decide))) (by exact (ev_lk_st1 e37 (by decide) rfl))
      · intro K106 hK106
        refine ev_r_if (pc := 77) (q := .eq) (o := 18) (t := 95) (c := x17 = 0) (by decide +kernel) (ev_k_eq hx17 ev_rng0) (by decide +kernel) ?_ ?_
        · intro c74
          refine ev_r_aload_n (pc := 95) (k := 0) (v := .ref 221) trivial (by decide +kernel) (by exact (ev_l1 e19 (by decide) (by decide))) ?_
          refine ev_r_getC (pc := 96) (y := 17) (ci := 2) (f := 1) (fin := 1) (k' := 223) (by decide +kernel) (by decide +kernel) (by exact ev_ob_221) rfl rfl ?_
          refine ev_r_iload_n (pc := 99) (k := 2) (v := Int32.ofInt x3) (by decide +kernel) (by exact (ev_l1 e21 (by decide) (by decide))) ?_
          refine ev_r_iald (pc := 100) hx3 (by decide +kernel) (by exact ev_ab_223) ?_
          intro x75 hx75
          refine ev_r_iconst (pc := 101) (k := 1) (by decide +kernel) ?_
          refine ev_r_iadd (pc := 102) (by decide +kernel) ?_
          intro x76 hx76
          refine ev_r_iload (pc := 103) (k := 4) (v := Int32.ofInt x16) (by decide +kernel) (by exact (ev_lk_st1 e23 (by decide) rfl)) ?_
          refine ev_r_imul (pc := 105) (by decide +kernel) ?_
          intro x77 hx77
          exact hK106 x17 hx17 x77 hx77 s28 _ (by exact (ev_l1 e19 (by decide) (by decide))) (by exact (ev_l1 e20 (by decide) (by decide))) (by exact (ev_l1 e21 (by decide) (by decide))) (by exact (ev_l1 e22 (by decide) (by decide))) (by exact (ev_lk_st1 e23 (by decide) rfl)) (by exact ev_lk_st1_self)
        · intro c74
          refine ev_r_aload_n (pc := 80) (k := 0) (v := .ref 221) trivial (by decide +kernel) (by exact (ev_l1 e19 (by decide) (by decide))) ?_
          refine ev_r_getC (pc := 81) (y := 17) (ci := 2) (f := 1) (fin := 1) (k' := 223) (by decide +kernel) (by decide +kernel) (by exact ev_ob_221) rfl rfl ?_
          refine ev_r_iload_n (pc := 84) (k := 2) (v := Int32.ofInt x3) (by decide +kernel) (by exact (ev_l1 e21 (by decide) (by decide))) ?_
          refine ev_r_iald (pc := 85) hx3 (by decide +kernel) (by exact ev_ab_223) ?_
          intro x78 hx78
          refine ev_r_iload_n (pc := 86) (k := 3) (v := Int32.ofInt x15) (by decide +kernel) (by exact (ev_l1 e22 (by decide) (by decide))) ?_
          refine ev_r_iconst (pc := 87) (k := 1) (by decide +kernel) ?_
          refine ev_r_iadd (pc := 88) (by decide +kernel) ?_
          intro x79 hx79
          refine ev_r_imul (pc := 89) (by decide +kernel) ?_
          intro x80 hx80
          refine ev_r_iconst (pc := 90) (k := 2) (by decide +kernel) ?_
          refine ev_r_iadd (pc := 91) (by decide +kernel) ?_
          intro x81 hx81
          refine ev_r_goto (pc := 92) (o := 14) (t := 106) (by decide +kernel) (by decide +kernel) ?_
          exact hK106 x17 hx17 x81 hx81 s28 _ (by exact (ev_l1 e19 (by decide) (by decide))) (by exact (ev_l1 e20 (by decide) (by decide))) (by exact (ev_l1 e21 (by decide) (by decide))) (by exact (ev_l1 e22 (by decide) (by decide))) (by exact (ev_lk_st1 e23 (by decide) rfl)) (by exact ev_lk_st1_self)
    · intro K54 hK54
      refine ev_r_icmp (pc := 46) (q := .ne) (o := 7) (t := 53) (c := x14 ≠ (-1)) (by decide +kernel) (ev_k_ne hx14 (by decide)) (by decide +kernel) ?_ ?_
      · intro c82
        refine ev_r_iconst (pc := 53) (k := 0) (by decide +kernel) ?_
        exact hK54 x11 hx11 x14 hx14 0 (by decide) s6 _ (by exact (ev_l1 (ev_l1 (ev_l1 (by rfl) (by decide) (by decide)) (by decide) (by decide)) (by decide) (by decide))) (by exact (ev_l1 (ev_l1 (ev_lk_st1 (by rfl) (by decide) rfl) (by decide) (by decide)) (by decide) (by decide))) (by exact (ev_l1 (ev_lk_st1 ev_lk_st1_self (by decide) rfl) (by decide) (by decide))) (by exact (ev_lk_st1 ev_lk_st1_self (by decide) rfl)) (by exact ev_lk_st1_self)
      · intro c82
        refine ev_r_iconst (pc := 49) (k := 1) (by decide +kernel) ?_
        refine ev_r_goto (pc := 50) (o := 4) (t := 54) (by decide +kernel) (by decide +kernel) ?_
        exact hK54 x11 hx11 x14 hx14 1 (by decide) s6 _ (by exact (ev_l1 (ev_l1 (ev_l1 (by rfl) (by decide) (by decide)) (by decide) (by decide)) (by decide) (by decide))) (by exact (ev_l1 (ev_l1 (ev_lk_st1 (by rfl) (by decide) rfl) (by decide) (by decide)) (by decide) (by decide))) (by exact (ev_l1 (ev_lk_st1 ev_lk_st1_self (by decide) rfl) (by decide) (by decide))) (by exact (ev_lk_st1 ev_lk_st1_self (by decide) rfl)) (by exact ev_lk_st1_self)
  · intro c8
    exact ev_r_return (pc := 21) (x := ()) trivial (by decide +kernel) (by decide +kernel) rfl
def jb_33_12 (Q : Nat) (a0 : Int)  (K12 : Int → Int → ev_St → Option ((Unit) × ev_St)) (x4 : Int) (x5 : Int) (s11 : ev_St) : Option ((Unit) × ev_St) := if 400 ≤ x5 then (some ((), s11)) else (ev_b (s11.2.2.1 221 9) fun r13 => ev_if (r13 ≠ 0) (ev_bd (jm_59 Q ((r13 - 1)) x4 s11) fun x16 s15 => if x16 = 0 then (some ((), s15)) else (ev_if ((0 : Int) ≤ x4 ∧ x4 < (ev_aln 222 : Int)) (ev_b (s15.1 222 (Int.toNat x4)) fun x18 => ev_jn (fun  (s24 : ev_St) => ev_if ((0 : Int) ≤ a0 ∧ a0 < (ev_aln 222 : Int)) (ev_b (s24.1 222 (Int.toNat a0)) fun x25 => ev_jn (fun  (s31 : ev_St) => ev_bd (jm_37 Q ((227 + 1)) a0 ((227 + 1)) x4 s31) fun _ s32 => ev_if ((0 : Int) ≤ a0 ∧ a0 < (ev_aln 222 : Int)) (ev_b (s32.1 222 (Int.toNat a0)) fun x33 => ev_if ((0 : Int) ≤ x4 ∧ x4 < (ev_aln 222 : Int)) (ev_b (s32.1 222 (Int.toNat x4)) fun x34 => ev_ck (x33 + x34) fun x35 => ev_b (ev_imin 1000000 x35) fun x36 => ev_if ((0 : Int) ≤ a0 ∧ a0 < (ev_aln 222 : Int)) (ev_b (ev_pI s32 222 (Int.toNat a0) x36) fun s37 => ev_if ((0 : Int) ≤ a0 ∧ a0 < (ev_aln 223 : Int)) (ev_b (s37.1 223 (Int.toNat a0)) fun x38 => ev_if ((0 : Int) ≤ x4 ∧ x4 < (ev_aln 223 : Int)) (ev_b (s37.1 223 (Int.toNat x4)) fun x39 => ev_ck (x38 + x39) fun x40 => ev_b (ev_imin 1000000 x40) fun x41 => ev_if ((0 : Int) ≤ a0 ∧ a0 < (ev_aln 223 : Int)) (ev_b (ev_pI s37 223 (Int.toNat a0) x41) fun s42 => ev_b (s42.2.2.1 221 9) fun r43 => ev_if (r43 ≠ 0) (ev_if ((0 : Int) ≤ x4 ∧ x4 < (ev_aln (((r43 - 1) + 5)) : Int)) (ev_b (s42.1 (((r43 - 1) + 5)) (Int.toNat x4)) fun x45 => ev_ck (x5 + 1) fun x46 => K12 x45 x46 s42))))))))) fun K108 => if x25 ≠ 0 then (K108  s24) else (ev_bd (jm_37 Q ((224 + 1)) a0 ((224 + 1)) x4 s24) fun _ s48 => ev_bd (jm_37 Q ((225 + 1)) a0 ((225 + 1)) x4 s48) fun _ s49 => ev_bd (jm_37 Q ((226 + 1)) a0 ((226 + 1)) x4 s49) fun _ s50 => K108  s50))) fun K57 => if x18 = 0 then (K57  s15) else (ev_bd (jm_35 Q ((225 + 1)) a0 s15) fun _ s52 => ev_bd (jm_35 Q ((226 + 1)) a0 s52) fun _ s53 => K57  s53)))))
def jl_33_12 (Q : Nat) (a0 : Int)  : Nat → Int → Int → ev_St → Option ((Unit) × ev_St)
  | 0 => fun _ _ _ => none
  | q + 1 => jb_33_12 Q a0  (jl_33_12 Q a0  q)
theorem jbt_33_12 (d : Nat) (hd : 3 ≤ d + 1) (Q : Nat) (a0 : Int) (ha0 : ev_rng a0)   (K12 : Int → Int → ev_St → Option ((Unit) × ev_St)) (hK12 : ∀ (x4 : Int) (hx4 : ev_rng x4), ∀ (x5 : Int) (hx5 : ev_rng x5), ∀ (s11 : ev_St) (w6 : List (Nat × Value)), ev_lk w6 0 = some (.ref 221) → ev_lk w6 1 = some (.int (Int32.ofInt a0)) → ev_lk w6 2 = some (.int (Int32.ofInt x4)) → ev_lk w6 3 = some (.int (Int32.ofInt x5)) → ev_w none (ev_Mof 33) d 12 w6 [] s11 (K12 x4 x5 s11) ev_eU ev_PU) : ∀ (x4 : Int) (hx4 : ev_rng x4), ∀ (x5 : Int) (hx5 : ev_rng x5), ∀ (s11 : ev_St) (w6 : List (Nat × Value)), ev_lk w6 0 = some (.ref 221) → ev_lk w6 1 = some (.int (Int32.ofInt a0)) → ev_lk w6 2 = some (.int (Int32.ofInt x4)) → ev_lk w6 3 = some (.int (Int32.ofInt x5)) → ev_w none (ev_Mof 33) d 12 w6 [] s11 (jb_33_12 Q a0  K12 x4 x5 s11) ev_eU ev_PU := by
  intro x4 hx4 x5 hx5 s11 w6 e7 e8 e9 e10
  unfold jb_33_12
  refine ev_r_iload_n (pc := 12) (k := 3) (v := Int32.ofInt x5) (by decide +kernel) (by exact e10) ?_
  refine ev_r_sipush (pc := 13) (k := 400) (by decide +kernel) (by decide +kernel) ?_
  refine ev_r_icmp (pc := 16) (q := .ge) (o := 170) (t := 186) (c := 400 ≤ x5) (by decide +kernel) (ev_k_ge hx5 (by decide)) (by decide +kernel) ?_ ?_
  · intro c12
    exact ev_r_return (pc := 186) (x := ()) trivial (by decide +kernel) (by decide +kernel) rfl
  · intro c12
    refine ev_r_aload_n (pc := 19) (k := 0) (v := .ref 221) trivial (by decide +kernel) (by exact e7) ?_
    refine ev_r_getR (pc := 20) (y := 47) (ci := 2) (f := 9) (fin := 0) (t := 5) (by decide +kernel) (by decide +kernel) (by exact ev_ob_221) rfl rfl ?_
    intro r13 hr13
    have hr13 : r13 = 0 ∨ ev_isOb (r13 - 1) 5 = true := hr13
    refine ev_r_iload_n (pc := 23) (k := 2) (v := Int32.ofInt x4) (by decide +kernel) (by exact e9) ?_
    refine ev_r_chk ?_
    intro c14
    refine ev_r_dr (r := r13) (fun v => [.int (Int32.ofInt x4), v]) c14 ?_
    refine ev_r_virt (pc := 24) (y := 63) (mi := 59) (na := 1) (k := (r13 - 1)) (as := [.int (Int32.ofInt x4)]) (rest := []) (encc := ev_oI) (Q := ev_bl) (fun x S1 h => jt_59 d (by omega) Q ((r13 - 1)) x4 (hr13.resolve_left c14) hx4 s11 x S1 h) (by exact (hr13.resolve_left c14)) (by decide +kernel) (by decide +kernel) (by decide +kernel) (by decide +kernel) rfl (by (try simp only [ev_sum, ev_nv_cat]); first | done | rfl) ?_
    intro x16 s15 hx16
    replace hx16 := ev_bl_rng hx16
    show ev_w _ _ _ _ _ [.int (Int32.ofInt x16)] _ _ _ _
    refine ev_r_if (pc := 27) (q := .eq) (o := 159) (t := 186) (c := x16 = 0) (by decide +kernel) (ev_k_eq hx16 ev_rng0) (by decide +kernel) ?_ ?_
    · intro c17
      exact ev_r_return (pc := 186) (x := ()) trivial (by decide +kernel) (by decide +kernel) rfl
    · intro c17
      refine ev_r_aload_n (pc := 30) (k := 0) (v := .ref 221) trivial (by decide +kernel) (by exact e7) ?_
      refine ev_r_getC (pc := 31) (y := 11) (ci := 2) (f := 0) (fin := 1) (k' := 222) (by decide +kernel) (by decide +kernel) (by exact ev_ob_221) rfl rfl ?_
      refine ev_r_iload_n (pc := 34) (k := 2) (v := Int32.ofInt x4) (by decide +kernel) (by exact e9) ?_
      refine ev_r_iald (pc := 35) hx4 (by decide +kernel) (by exact ev_ab_222) ?_
      intro x18 hx18
      refine ev_r_jn (Q := fun K => ∀ (s24 : ev_St) (w19 : List (Nat × Value)), ev_lk w19 0 = some (.ref 221) → ev_lk w19 1 = some (.int (Int32.ofInt a0)) → ev_lk w19 2 = some (.int (Int32.ofInt x4)) → ev_lk w19 3 = some (.int (Int32.ofInt x5)) → ev_w none (ev_Mof 33) d 57 w19 [] s24 (K  s24) ev_eU ev_PU) ?_ ?_
      · intro  s24 w19 e20 e21 e22 e23
        refine ev_r_aload_n (pc := 57) (k := 0) (v := .ref 221) trivial (by decide +kernel) (by exact e20) ?_
        refine ev_r_getC (pc := 58) (y := 11) (ci := 2) (f := 0) (fin := 1) (k' := 222) (by decide +kernel) (by decide +kernel) (by exact ev_ob_221) rfl rfl ?_
        refine ev_r_iload_n (pc := 61) (k := 1) (v := Int32.ofInt a0) (by decide +kernel) (by exact e21) ?_
        refine ev_r_iald (pc := 62) ha0 (by decide +kernel) (by exact ev_ab_222) ?_
        intro x25 hx25
        refine ev_r_jn (Q := fun K => ∀ (s31 : ev_St) (w26 : List (Nat × Value)), ev_lk w26 0 = some (.ref 221) → ev_lk w26 1 = some (.int (Int32.ofInt a0)) → ev_lk w26 2 = some (.int (Int32.ofInt x4)) → ev_lk w26 3 = some (.int (Int32.ofInt x5)) → ev_w none (ev_Mof 33) d 108 w26 [] s31 (K  s31) ev_eU ev_PU) ?_ ?_
        · intro  s31 w26 e27 e28 e29 e30
          refine ev_r_aload_n (pc := 108) (k := 0) (v := .ref 221) trivial (by decide +kernel) (by exact e27) ?_
          refine ev_r_aload_n (pc := 109) (k := 0) (v := .ref 221) trivial (by decide +kernel) (by exact e27) ?_
          refine ev_r_getC (pc := 110) (y := 30) (ci := 2) (f := 5) (fin := 1) (k' := 227) (by decide +kernel) (by decide +kernel) (by exact ev_ob_221) rfl rfl ?_
          refine ev_r_iload_n (pc := 113) (k := 1) (v := Int32.ofInt a0) (by decide +kernel) (by exact e28) ?_
          refine ev_r_aload_n (pc := 114) (k := 0) (v := .ref 221) trivial (by decide +kernel) (by exact e27) ?_
          refine ev_r_getC (pc := 115) (y := 30) (ci := 2) (f := 5) (fin := 1) (k' := 227) (by decide +kernel) (by decide +kernel) (by exact ev_ob_221) rfl rfl ?_
          refine ev_r_iload_n (pc := 118) (k := 2) (v := Int32.ofInt x4) (by decide +kernel) (by exact e29) ?_
          refine ev_r_virt (pc := 119) (y := 170) (mi := 37) (na := 4) (k := 221) (as := [ev_nv ((227 + 1)), .int (Int32.ofInt a0), ev_nv ((227 + 1)), .int (Int32.ofInt x4)]) (rest := []) (encc := ev_oU) (Q := ev_PU) (fun x S1 h => jt_37 d (by omega) Q ((227 + 1)) a0 ((227 + 1)) x4 (by exact (Or.inr ev_ab_227)) ha0 (by exact (Or.inr ev_ab_227)) hx4 s31 x S1 h) (by exact ev_ob_221) (by decide +kernel) (by decide +kernel) (by decide +kernel) (by decide +kernel) rfl (by (try simp only [ev_sum, ev_nv_cat]); first | done | rfl) ?_
          intro _ s32 _
          show ev_w _ _ _ _ _ [] _ _ _ _
          refine ev_r_aload_n (pc := 122) (k := 0) (v := .ref 221) trivial (by decide +kernel) (by exact e27) ?_
          refine ev_r_getC (pc := 123) (y := 11) (ci := 2) (f := 0) (fin := 1) (k' := 222) (by decide +kernel) (by decide +kernel) (by exact ev_ob_221) rfl rfl ?_
          refine ev_r_iload_n (pc := 126) (k := 1) (v := Int32.ofInt a0) (by decide +kernel) (by exact e28) ?_
          refine ev_r_ldc (pc := 127) (y := 163) (k := 1000000) (by decide +kernel) (by decide +kernel) ?_
          refine ev_r_aload_n (pc := 129) (k := 0) (v := .ref 221) trivial (by decide +kernel) (by exact e27) ?_
          refine ev_r_getC (pc := 130) (y := 11) (ci := 2) (f := 0) (fin := 1) (k' := 222) (by decide +kernel) (by decide +kernel) (by exact ev_ob_221) rfl rfl ?_
          refine ev_r_iload_n (pc := 133) (k := 1) (v := Int32.ofInt a0) (by decide +kernel) (by exact e28) ?_
          refine ev_r_iald (pc := 134) ha0 (by decide +kernel) (by exact ev_ab_222) ?_
          intro x33 hx33
          refine ev_r_aload_n (pc := 135) (k := 0) (v := .ref 221) trivial (by decide +kernel) (by exact e27) ?_
          refine ev_r_getC (pc := 136) (y := 11) (ci := 2) (f := 0) (fin := 1) (k' := 222) (by decide +kernel) (by decide +kernel) (by exact ev_ob_221) rfl rfl ?_
          refine ev_r_iload_n (pc := 139) (k := 2) (v := Int32.ofInt x4) (by decide +kernel) (by exact e29) ?_
          refine ev_r_iald (pc := 140) hx4 (by decide +kernel) (by exact ev_ab_222) ?_
          intro x34 hx34
          refine ev_r_iadd (pc := 141) (by decide +kernel) ?_
          intro x35 hx35
          refine ev_r_mm1 (pc := 142) (y := 164) (kd := 9) (Or.inl rfl) (by decide +kernel) (by decide +kernel) (by (try simp only [ev_sum, ev_nv_cat]); first | done | rfl) ?_
          intro x36 hx36
          refine ev_r_iast (pc := 145) hx36 ha0 (by decide +kernel) (by exact ev_ab_222) ?_
          intro s37
          refine ev_r_aload_n (pc := 146) (k := 0) (v := .ref 221) trivial (by decide +kernel) (by exact e27) ?_
          refine ev_r_getC (pc := 147) (y := 17) (ci := 2) (f := 1) (fin := 1) (k' := 223) (by decide +kernel) (by decide +kernel) (by exact ev_ob_221) rfl rfl ?_
          refine ev_r_iload_n (pc := 150) (k := 1) (v := Int32.ofInt a0) (by decide +kernel) (by exact e28) ?_
          refine ev_r_ldc (pc := 151) (y := 163) (k := 1000000) (by decide +kernel) (by decide +kernel) ?_
          refine ev_r_aload_n (pc := 153) (k := 0) (v := .ref 221) trivial (by decide +kernel) (by exact e27) ?_
          refine ev_r_getC (pc := 154) (y := 17) (ci := 2) (f := 1) (fin := 1) (k' := 223) (by decide +kernel) (by decide +kernel) (by exact ev_ob_221) rfl rfl ?_
          refine ev_r_iload_n (pc := 157) (k := 1) (v := Int32.ofInt a0) (by decide +kernel) (by exact e28) ?_
          refine ev_r_iald (pc := 158) ha0 (by decide +kernel) (by exact ev_ab_223) ?_
          intro x38 hx38
          refine ev_r_aload_n (pc := 159) (k := 0) (v := .ref 221) trivial (by decide +kernel) (by exact e27) ?_
          refine ev_r_getC (pc := 160) (y := 17) (ci := 2) (f := 1) (fin := 1) (k' := 223) (by decide +kernel) (by decide +kernel) (by exact ev_ob_221) rfl rfl ?_
          refine ev_r_iload_n (pc := 163) (k := 2) (v := Int32.ofInt x4) (by decide +kernel) (by exact e29) ?_
          refine ev_r_iald (pc := 164) hx4 (by decide +kernel) (by exact ev_ab_223) ?_
          intro x39 hx39
          refine ev_r_iadd (pc := 165) (by decide +kernel) ?_
          intro x40 hx40
          refine ev_r_mm1 (pc := 166) (y := 164) (kd := 9) (Or.inl rfl) (by decide +kernel) (by decide +kernel) (by (try simp only [ev_sum, ev_nv_cat]); first | done | rfl) ?_
          intro x41 hx41
          refine ev_r_iast (pc := 169) hx41 ha0 (by decide +kernel) (by exact ev_ab_223) ?_
          intro s42
          refine ev_r_aload_n (pc := 170) (k := 0) (v := .ref 221) trivial (by decide +kernel) (by exact e27) ?_
          refine ev_r_getR (pc := 171) (y := 47) (ci := 2) (f := 9) (fin := 0) (t := 5) (by decide +kernel) (by decide +kernel) (by exact ev_ob_221) rfl rfl ?_
          intro r43 hr43
          have hr43 : r43 = 0 ∨ ev_isOb (r43 - 1) 5 = true := hr43
          refine ev_r_chk ?_
          intro c44
          refine ev_r_dr (r := r43) (fun v => [v]) c44 ?_
          refine ev_r_getC (pc := 174) (y := 174) (ci := 5) (f := 4) (fin := 2) (k' := ((r43 - 1) + 5)) (by decide +kernel) (by decide +kernel) (by exact (hr43.resolve_left c44)) rfl rfl ?_
          refine ev_r_iload_n (pc := 177) (k := 2) (v := Int32.ofInt x4) (by decide +kernel) (by exact e29) ?_
          refine ev_r_iald (pc := 178) hx4 (by decide +kernel) (by exact (ev_fo_5_4 (hr43.resolve_left c44))) ?_
          intro x45 hx45
          refine ev_r_istore_n (pc := 179) (k := 2) (by decide +kernel) (by decide +kernel) rfl ?_
          refine ev_r_iinc (pc := 180) (k := 3) (c := 1) (x := x5) (by decide +kernel) (by decide +kernel) (by exact (ev_l1 e30 (by decide) (by decide))) (fun _ => rfl) ?_
          intro x46 hx46
          refine ev_r_goto (pc := 183) (o := (-171)) (t := 12) (by decide +kernel) (by decide +kernel) ?_
          exact hK12 x45 hx45 x46 hx46 s42 _ (by exact (ev_l1 (ev_l1 e27 (by decide) (by decide)) (by decide) (by decide))) (by exact (ev_l1 (ev_lk_st1 e28 (by decide) rfl) (by decide) (by decide))) (by exact (ev_lk_st1 ev_lk_st1_self (by decide) rfl)) (by exact ev_lk_st1_self)
        · intro K108 hK108
          refine ev_r_if (pc := 63) (q := .ne) (o := 45) (t := 108) (c := x25 ≠ 0) (by decide +kernel) (ev_k_ne hx25 ev_rng0) (by decide +kernel) ?_ ?_
          · intro c47
            exact hK108  s24 _ (by exact e20) (by exact e21) (by exact e22) (by exact e23)
          · intro c47
            refine ev_r_aload_n (pc := 66) (k := 0) (v := .ref 221) trivial (by decide +kernel) (by exact e20) ?_
            refine ev_r_aload_n (pc := 67) (k := 0) (v := .ref 221) trivial (by decide +kernel) (by exact e20) ?_
            refine ev_r_getC (pc := 68) (y := 20) (ci := 2) (f := 2) (fin := 1) (k' := 224) (by decide +kernel) (by decide +kernel) (by exact ev_ob_221) rfl rfl ?_
            refine ev_r_iload_n (pc := 71) (k := 1) (v := Int32.ofInt a0) (by decide +kernel) (by exact e21) ?_
            refine ev_r_aload_n (pc := 72) (k := 0) (v := .ref 221) trivial (by decide +kernel) (by exact e20) ?_
            refine ev_r_getC (pc := 73) (y := 20) (ci := 2) (f := 2) (fin := 1) (k' := 224) (by decide +kernel) (by decide +kernel) (by exact ev_ob_221) rfl rfl ?_
            refine ev_r_iload_n (pc := 76) (k := 2) (v := Int32.ofInt x4) (by decide +kernel) (by exact e22) ?_
            refine ev_r_virt (pc := 77) (y := 170) (mi := 37) (na := 4) (k := 221) (as := [ev_nv ((224 + 1)), .int (Int32.ofInt a0), ev_nv ((224 + 1)), .int (Int32.ofInt x4)]) (rest := []) (encc := ev_oU) (Q := ev_PU) (fun x S1 h => jt_37 d (by omega) Q ((224 + 1)) a0 ((224 + 1)) x4 (by exact (Or.inr ev_ab_224)) ha0 (by exact (Or.inr ev_ab_224)) hx4 s24 x S1 h) (by exact ev_ob_221) (by decide +kernel) (by decide +kernel) (by decide +kernel) (by decide +kernel) rfl (by (try simp only [ev_sum, ev_nv_cat]); first | done | rfl) ?_
            intro _ s48 _
            show ev_w _ _ _ _ _ [] _ _ _ _
            refine ev_r_aload_n (pc := 80) (k := 0) (v := .ref 221) trivial (by decide +kernel) (by exact e20) ?_
            refine ev_r_aload_n (pc := 81) (k := 0) (v := .ref 221) trivial (by decide +kernel) (by exact e20) ?_
            refine ev_r_getC (pc := 82) (y := 24) (ci := 2) (f := 3) (fin := 1) (k' := 225) (by decide +kernel) (by decide +kernel) (by exact ev_ob_221) rfl rfl ?_
            refine ev_r_iload_n (pc := 85) (k := 1) (v := Int32.ofInt a0) (by decide +kernel) (by exact e21) ?_
            refine ev_r_aload_n (pc := 86) (k := 0) (v := .ref 221) trivial (by decide +kernel) (by exact e20) ?_
            refine ev_r_getC (pc := 87) (y := 24) (ci := 2) (f := 3) (fin := 1) (k' := 225) (by decide +kernel) (by decide +kernel) (by exact ev_ob_221) rfl rfl ?_
            refine ev_r_iload_n (pc := 90) (k := 2) (v := Int32.ofInt x4) (by decide +kernel) (by exact e22) ?_
            refine ev_r_virt (pc := 91) (y := 170) (mi := 37) (na := 4) (k := 221) (as := [ev_nv ((225 + 1)), .int (Int32.ofInt a0), ev_nv ((225 + 1)), .int (Int32.ofInt x4)]) (rest := []) (encc := ev_oU) (Q := ev_PU) (fun x S1 h => jt_37 d (by omega) Q ((225 + 1)) a0 ((225 + 1)) x4 (by exact (Or.inr ev_ab_225)) ha0 (by exact (Or.inr ev_ab_225)) hx4 s48 x S1 h) (by exact ev_ob_221) (by decide +kernel) (by decide +kernel) (by decide +kernel) (by decide +kernel) rfl (by (try simp only [ev_sum, ev_nv_cat]); first | done | rfl) ?_
            intro _ s49 _
            show ev_w _ _ _ _ _ [] _ _ _ _
            refine ev_r_aload_n (pc := 94) (k := 0) (v := .ref 221) trivial (by decide +kernel) (by exact e20) ?_
            refine ev_r_aload_n (pc := 95) (k := 0) (v := .ref 221) trivial (by decide +kernel) (by exact e20) ?_
            refine ev_r_getC (pc := 96) (y := 27) (ci := 2) (f := 4) (fin := 1) (k' := 226) (by decide +kernel) (by decide +kernel) (by exact ev_ob_221) rfl rfl ?_
            refine ev_r_iload_n (pc := 99) (k := 1) (v := Int32.ofInt a0) (by decide +kernel) (by exact e21) ?_
            refine ev_r_aload_n (pc := 100) (k := 0) (v := .ref 221) trivial (by decide +kernel) (by exact e20) ?_
            refine ev_r_getC (pc := 101) (y := 27) (ci := 2) (f := 4) (fin := 1) (k' := 226) (by decide +kernel) (by decide +kernel) (by exact ev_ob_221) rfl rfl ?_
            refine ev_r_iload_n (pc := 104) (k := 2) (v := Int32.ofInt x4) (by decide +kernel) (by exact e22) ?_
            refine ev_r_virt (pc := 105) (y := 170) (mi := 37) (na := 4) (k := 221) (as := [ev_nv ((226 + 1)), .int (Int32.ofInt a0), ev_nv ((226 + 1)), .int (Int32.ofInt x4)]) (rest := []) (encc := ev_oU) (Q := ev_PU) (fun x S1 h => jt_37 d (by omega) Q ((226 + 1)) a0 ((226 + 1)) x4 (by exact (Or.inr ev_ab_226)) ha0 (by exact (Or.inr ev_ab_226)) hx4 s49 x S1 h) (by exact ev_ob_221) (by decide +kernel) (by decide +kernel) (by decide +kernel) (by decide +kernel) rfl (by (try simp only [ev_sum, ev_nv_cat]); first | done | rfl) ?_
            intro _ s50 _
            show ev_w _ _ _ _ _ [] _ _ _ _
            exact hK108  s50 _ (by exact e20) (by exact e21) (by exact e22) (by exact e23)
      · intro K57 hK57
        refine ev_r_if (pc := 36) (q := .eq) (o := 21) (t := 57) (c := x18 = 0) (by decide +kernel) (ev_k_eq hx18 ev_rng0) (by decide +kernel) ?_ ?_
        · intro c51
          exact hK57  s15 _ (by exact e7) (by exact e8) (by exact e9) (by exact e10)
        · intro c51
          refine ev_r_aload_n (pc := 39) (k := 0) (v := .ref 221) trivial (by decide +kernel) (by exact e7) ?_
          refine ev_r_aload_n (pc := 40) (k := 0) (v := .ref 221) trivial (by decide +kernel) (by exact e7) ?_
          refine ev_r_getC (pc := 41) (y := 24) (ci := 2) (f := 3) (fin := 1) (k' := 225) (by decide +kernel) (by decide +kernel) (by exact ev_ob_221) rfl rfl ?_
          refine ev_r_iload_n (pc := 44) (k := 1) (v := Int32.ofInt a0) (by decide +kernel) (by exact e8) ?_
          refine ev_r_virt (pc := 45) (y := 115) (mi := 35) (na := 2) (k := 221) (as := [ev_nv ((225 + 1)), .int (Int32.ofInt a0)]) (rest := []) (encc := ev_oU) (Q := ev_PU) (fun x S1 h => jt_35 d (by omega) Q ((225 + 1)) a0 (by exact (Or.inr ev_ab_225)) ha0 s15 x S1 h) (by exact ev_ob_221) (by decide +kernel) (by decide +kernel) (by decide +kernel) (by decide +kernel) rfl (by (try simp only [ev_sum, ev_nv_cat]); first | done | rfl) ?_
          intro _ s52 _
          show ev_w _ _ _ _ _ [] _ _ _ _
          refine ev_r_aload_n (pc := 48) (k := 0) (v := .ref 221) trivial (by decide +kernel) (by exact e7) ?_
          refine ev_r_aload_n (pc := 49) (k := 0) (v := .ref 221) trivial (by decide +kernel) (by exact e7) ?_
          refine ev_r_getC (pc := 50) (y := 27) (ci := 2) (f := 4) (fin := 1) (k' := 226) (by decide +kernel) (by decide +kernel) (by exact ev_ob_221) rfl rfl ?_
          refine ev_r_iload_n (pc := 53) (k := 1) (v := Int32.ofInt a0) (by decide +kernel) (by exact e8) ?_
          refine ev_r_virt (pc := 54) (y := 115) (mi := 35) (na := 2) (k := 221) (as := [ev_nv ((226 + 1)), .int (Int32.ofInt a0)]) (rest := []) (encc := ev_oU) (Q := ev_PU) (fun x S1 h => jt_35 d (by omega) Q ((226 + 1)) a0 (by exact (Or.inr ev_ab_226)) ha0 s52 x S1 h) (by exact ev_ob_221) (by decide +kernel) (by decide +kernel) (by decide +kernel) (by decide +kernel) rfl (by (try simp only [ev_sum, ev_nv_cat]); first | done | rfl) ?_
          intro _ s53 _
          show ev_w _ _ _ _ _ [] _ _ _ _
          exact hK57  s53 _ (by exact e7) (by exact e8) (by exact e9) (by exact e10)
theorem jlt_33_12 (d : Nat) (hd : 3 ≤ d + 1) (Q : Nat) (a0 : Int) (ha0 : ev_rng a0)   : ∀ q : Nat, ∀ (x4 : Int) (hx4 : ev_rng x4), ∀ (x5 : Int) (hx5 : ev_rng x5), ∀ (s11 : ev_St) (w6 : List (Nat × Value)), ev_lk w6 0 = some (.ref 221) → ev_lk w6 1 = some (.int (Int32.ofInt a0)) → ev_lk w6 2 = some (.int (Int32.ofInt x4)) → ev_lk w6 3 = some (.int (Int32.ofInt x5)) → ev_w none (ev_Mof 33) d 12 w6 [] s11 (jl_33_12 Q a0  q x4 x5 s11) ev_eU ev_PU := by
  intro q
  induction q with
  | zero =>
    intro x4 hx4 x5 hx5 s11 w6 e7 e8 e9 e10
    exact ev_w_none
  | succ q ih => exact jbt_33_12 d hd Q a0 ha0   _ ih
/-- MendBench$Facts.learnRow(I)V -/
def jm_33 (Q : Nat) (a0 : Int) (S : ev_St) : Option ((Unit) × ev_St) := ev_b (S.2.2.1 221 9) fun r1 => ev_if (r1 ≠ 0) (ev_if ((0 : Int) ≤ a0 ∧ a0 < (ev_aln (((r1 - 1) + 4)) : Int)) (ev_b (S.1 (((r1 - 1) + 4)) (Int.toNat a0)) fun x3 => jl_33_12 Q a0  Q x3 0 S))
theorem jt_33 (d : Nat) (hd : 3 ≤ d) (Q : Nat) (a0 : Int) (ha0 : ev_rng a0) (S : ev_St) (x : Unit) (S' : ev_St) (hJ : jm_33 Q a0 S = some (x, S')) : ev_Ref d 33 [.ref 221, .int (Int32.ofInt a0)] S (ev_eU x) S' (ev_PU x) := by
  obtain ⟨d, rfl⟩ : ∃ e, d = e + 1 := ⟨d - 1, by omega⟩
  refine ev_ref_of (P := ev_PU) (lv := [(0, .ref 221), (1, .int (Int32.ofInt a0))]) (by decide +kernel) (by (try simp only [ev_sum, ev_nv_cat]); first | done | rfl) (by (try simp only [lv_args, ev_nv_cat]); first | done | rfl) ?_ x S' hJ
  unfold jm_33
  refine ev_r_aload_n (pc := 0) (k := 0) (v := .ref 221) trivial (by decide +kernel) (by rfl) ?_
  refine ev_r_getR (pc := 1) (y := 47) (ci := 2) (f := 9) (fin := 0) (t := 5) (by decide +kernel) (by decide +kernel) (by exact ev_ob_221) rfl rfl ?_
  intro r1 hr1
  have hr1 : r1 = 0 ∨ ev_isOb (r1 - 1) 5 = true := hr1
  refine ev_r_chk ?_
  intro c2
  refine ev_r_dr (r := r1) (fun v => [v]) c2 ?_
  refine ev_r_getC (pc := 4) (y := 154) (ci := 5) (f := 3) (fin := 2) (k' := ((r1 - 1) + 4)) (by decide +kernel) (by decide +kernel) (by exact (hr1.resolve_left c2)) rfl rfl ?_
  refine ev_r_iload_n (pc := 7) (k := 1) (v := Int32.ofInt a0) (by decide +kernel) (by rfl) ?_
  refine ev_r_iald (pc := 8) ha0 (by decide +kernel) (by exact (ev_fo_5_3 (hr1.resolve_left c2))) ?_
  intro x3 hx3
  refine ev_r_istore_n (pc := 9) (k := 2) (by decide +kernel) (by decide +kernel) rfl ?_
  refine ev_r_iconst (pc := 10) (k := 0) (by decide +kernel) ?_
  refine ev_r_istore_n (pc := 11) (k := 3) (by decide +kernel) (by decide +kernel) rfl ?_
  exact jlt_33_12 d hd Q a0 ha0   Q x3 hx3 0 (by decide) S _ (by exact (ev_l1 (ev_l1 (by rfl) (by decide) (by decide)) (by decide) (by decide))) (by exact (ev_l1 (ev_lk_st1 (by rfl) (by decide) rfl) (by decide) (by decide))) (by exact (ev_lk_st1 ev_lk_st1_self (by decide) rfl)) (by exact ev_lk_st1_self)
