/-! METHODS as functions, laid by decomp.py -/
theorem ev_ob_254 : ev_isOb 254 0 = true := (by decide +kernel)
theorem ev_el_255 {i : Int} (h : 0 ≤ i ∧ i < (3 : Int)) : ev_isOb (263 + 2 * i.toNat) 10 = true := (show ∀ j, j < 3 → ev_isOb (263 + 2 * j) 10 = true from (by decide +kernel)) i.toNat (by omega)
theorem ev_ab_256 : ev_isAb 256 1 .int = true := (by decide +kernel)
theorem ev_ab_258 : ev_isAb 258 1 .int = true := (by decide +kernel)
theorem ev_ab_257 : ev_isAb 257 1 .boolean = true := (by decide +kernel)
theorem ev_ab_261 : ev_isAb 261 1 .int = true := (by decide +kernel)
theorem ev_fo_10_0 {k : Nat} (h : ev_isOb k 10 = true) : ev_isAb (k + 1) 1 .int = true := ev_foA (by decide +kernel) h
theorem ev_ab_262 : ev_isAb 262 1 .int = true := (by decide +kernel)
theorem ev_ob_6 : ev_isOb 6 1 = true := (by decide +kernel)
theorem ev_ab_9 : ev_isAb 9 2 .long = true := (by decide +kernel)
theorem ev_ab_10 : ev_isAb 10 2 .long = true := (by decide +kernel)
theorem ev_ab_11 : ev_isAb 11 1 .boolean = true := (by decide +kernel)
theorem ev_ab_7 : ev_isAb 7 2 .long = true := (by decide +kernel)
theorem ev_ab_8 : ev_isAb 8 2 .long = true := (by decide +kernel)
theorem ev_ab_13 : ev_isAb 13 1 .int = true := (by decide +kernel)
theorem ev_ab_12 : ev_isAb 12 1 .boolean = true := (by decide +kernel)
/-- MendBench$Buffers.textAt(I)LMendBench$Text; -/
def jm_1 (Q : Nat) (a0 : Int) (S : ev_St) : Option ((Nat) × ev_St) := if a0 < 0 then (some (0, S)) else (if 3 ≤ a0 then (some (0, S)) else (ev_if ((0 : Int) ≤ a0 ∧ a0 < (3 : Int)) (ev_b (263 + 2 * Int.toNat a0) fun _ => some (((263 + 2 * Int.toNat a0)) + 1, S))))
theorem jt_1 (d : Nat) (hd : 1 ≤ d) (Q : Nat) (a0 : Int) (ha0 : ev_rng a0) (S : ev_St) (x : Nat) (S' : ev_St) (hJ : jm_1 Q a0 S = some (x, S')) : ev_Ref d 1 [.ref 254, .int (Int32.ofInt a0)] S (ev_eR x) S' ((fun r => r = 0 ∨ ev_isOb (r - 1) 10 = true) x) := by
  obtain ⟨d, rfl⟩ : ∃ e, d = e + 1 := ⟨d - 1, by omega⟩
  refine ev_ref_of (P := (fun r => r = 0 ∨ ev_isOb (r - 1) 10 = true)) (lv := [(0, .ref 254), (1, .int (Int32.ofInt a0))]) (by decide +kernel) (by (try simp only [ev_sum, ev_nv_cat]); first | done | rfl) (by (try simp only [lv_args, ev_nv_cat]); first | done | rfl) ?_ x S' hJ
  unfold jm_1
  refine ev_r_iload_n (pc := 0) (k := 1) (v := Int32.ofInt a0) (by decide +kernel) (by rfl) ?_
  refine ev_r_if (pc := 1) (q := .lt) (o := 17) (t := 18) (c := a0 < 0) (by decide +kernel) (ev_k_lt ha0 ev_rng0) (by decide +kernel) ?_ ?_
  · intro c1
    refine ev_r_null (pc := 18) (by decide +kernel) ?_
    exact ev_r_areturn (pc := 19) (x := 0) (r := 0) (C := "MendBench$Text") (Or.inl rfl) (by decide +kernel) (by decide +kernel) rfl
  · intro c1
    refine ev_r_iload_n (pc := 4) (k := 1) (v := Int32.ofInt a0) (by decide +kernel) (by rfl) ?_
    refine ev_r_iconst (pc := 5) (k := 3) (by decide +kernel) ?_
    refine ev_r_icmp (pc := 6) (q := .ge) (o := 12) (t := 18) (c := 3 ≤ a0) (by decide +kernel) (ev_k_ge ha0 (by decide)) (by decide +kernel) ?_ ?_
    · intro c2
      refine ev_r_null (pc := 18) (by decide +kernel) ?_
      exact ev_r_areturn (pc := 19) (x := 0) (r := 0) (C := "MendBench$Text") (Or.inl rfl) (by decide +kernel) (by decide +kernel) rfl
    · intro c2
      refine ev_r_aload_n (pc := 9) (k := 0) (v := .ref 254) trivial (by decide +kernel) (by rfl) ?_
      refine ev_r_getC (pc := 10) (y := 13) (ci := 0) (f := 0) (fin := 1) (k' := 255) (by decide +kernel) (by decide +kernel) (by exact ev_ob_254) rfl rfl ?_
      refine ev_r_iload_n (pc := 13) (k := 1) (v := Int32.ofInt a0) (by decide +kernel) (by rfl) ?_
      refine ev_r_aald (pc := 14) (N := 3) (b := 263) (c := 2) (C := "MendBench$Text") ha0 (by decide +kernel) (by decide +kernel) ?_
      intro c3
      refine ev_r_goto (pc := 15) (o := 4) (t := 19) (by decide +kernel) (by decide +kernel) ?_
      exact ev_r_areturn (pc := 19) (x := ((263 + 2 * Int.toNat a0)) + 1) (r := ((263 + 2 * Int.toNat a0)) + 1) (C := "MendBench$Text") (Or.inr (ev_el_255 c3)) (by decide +kernel) (by decide +kernel) rfl
/-- MendBench$Buffers.addMark(IIZ)I -/
def jm_2 (Q : Nat) (a0 : Int) (a1 : Int) (a2 : Int) (S : ev_St) : Option ((Int) × ev_St) := ev_b (S.1 254 4) fun x1 => if x1 < 0 then (some ((-1), S)) else (ev_b (S.1 254 4) fun x3 => if x3 < 12 then (ev_b (S.1 254 4) fun x5 => ev_if ((0 : Int) ≤ x5 ∧ x5 < (ev_aln 256 : Int)) (ev_b (ev_pI S 256 (Int.toNat x5) a0) fun s6 => ev_b (s6.1 254 4) fun x7 => ev_if ((0 : Int) ≤ x7 ∧ x7 < (ev_aln 258 : Int)) (ev_b (ev_pI s6 258 (Int.toNat x7) a1) fun s8 => ev_b (s8.1 254 4) fun x9 => ev_if (ev_bl a2) (ev_if ((0 : Int) ≤ x9 ∧ x9 < (ev_aln 257 : Int)) (ev_b (ev_pI s8 257 (Int.toNat x9) a2) fun s10 => ev_b (s10.1 254 4) fun x12 => ev_ck (x12 + 1) fun x13 => ev_b (ev_pI s10 254 4 x13) fun s14 => ev_b (s14.1 254 4) fun x15 => ev_ck (x15 - 1) fun x16 => some (x16, s14)))))) else (some ((-1), S)))
theorem jt_2 (d : Nat) (hd : 1 ≤ d) (Q : Nat) (a0 : Int) (a1 : Int) (a2 : Int) (ha0 : ev_rng a0) (ha1 : ev_rng a1) (ha2 : ev_rng a2) (S : ev_St) (x : Int) (S' : ev_St) (hJ : jm_2 Q a0 a1 a2 S = some (x, S')) : ev_Ref d 2 [.ref 254, .int (Int32.ofInt a0), .int (Int32.ofInt a1), .int (Int32.ofInt a2)] S (ev_eI x) S' (ev_rng x) := by
  obtain ⟨d, rfl⟩ : ∃ e, d = e + 1 := ⟨d - 1, by omega⟩
  refine ev_ref_of (P := ev_rng) (lv := [(0, .ref 254), (1, .int (Int32.ofInt a0)), (2, .int (Int32.ofInt a1)), (3, .int (Int32.ofInt a2))]) (by decide +kernel) (by (try simp only [ev_sum, ev_nv_cat]); first | done | rfl) (by (try simp only [lv_args, ev_nv_cat]); first | done | rfl) ?_ x S' hJ
  unfold jm_2
  refine ev_r_aload_n (pc := 0) (k := 0) (v := .ref 254) trivial (by decide +kernel) (by rfl) ?_
  refine ev_r_getI (pc := 1) (y := 46) (ci := 0) (f := 4) (fin := 0) (by decide +kernel) (by decide +kernel) (by exact ev_ob_254) rfl ?_
  intro x1 hx1
  refine ev_r_if (pc := 4) (q := .lt) (o := 12) (t := 16) (c := x1 < 0) (by decide +kernel) (ev_k_lt hx1 ev_rng0) (by decide +kernel) ?_ ?_
  · intro c2
    refine ev_r_iconst (pc := 16) (k := -1) (by decide +kernel) ?_
    exact ev_r_ireturn (pc := 17) (x := (-1)) (v := Int32.ofInt ((-1))) (ty := .int) (by decide) (by decide +kernel) (by decide +kernel) rfl rfl
  · intro c2
    refine ev_r_aload_n (pc := 7) (k := 0) (v := .ref 254) trivial (by decide +kernel) (by rfl) ?_
    refine ev_r_getI (pc := 8) (y := 46) (ci := 0) (f := 4) (fin := 0) (by decide +kernel) (by decide +kernel) (by exact ev_ob_254) rfl ?_
    intro x3 hx3
    refine ev_r_bipush (pc := 11) (k := 12) (by decide +kernel) (by decide +kernel) ?_
    refine ev_r_icmp (pc := 13) (q := .lt) (o := 5) (t := 18) (c := x3 < 12) (by decide +kernel) (ev_k_lt hx3 (by decide)) (by decide +kernel) ?_ ?_
    · intro c4
      refine ev_r_aload_n (pc := 18) (k := 0) (v := .ref 254) trivial (by decide +kernel) (by rfl) ?_
      refine ev_r_getC (pc := 19) (y := 17) (ci := 0) (f := 1) (fin := 1) (k' := 256) (by decide +kernel) (by decide +kernel) (by exact ev_ob_254) rfl rfl ?_
      refine ev_r_aload_n (pc := 22) (k := 0) (v := .ref 254) trivial (by decide +kernel) (by rfl) ?_
      refine ev_r_getI (pc := 23) (y := 46) (ci := 0) (f := 4) (fin := 0) (by decide +kernel) (by decide +kernel) (by exact ev_ob_254) rfl ?_
      intro x5 hx5
      refine ev_r_iload_n (pc := 26) (k := 1) (v := Int32.ofInt a0) (by decide +kernel) (by rfl) ?_
      refine ev_r_iast (pc := 27) ha0 hx5 (by decide +kernel) (by exact ev_ab_256) ?_
      intro s6
      refine ev_r_aload_n (pc := 28) (k := 0) (v := .ref 254) trivial (by decide +kernel) (by rfl) ?_
      refine ev_r_getC (pc := 29) (y := 25) (ci := 0) (f := 3) (fin := 1) (k' := 258) (by decide +kernel) (by decide +kernel) (by exact ev_ob_254) rfl rfl ?_
      refine ev_r_aload_n (pc := 32) (k := 0) (v := .ref 254) trivial (by decide +kernel) (by rfl) ?_
      refine ev_r_getI (pc := 33) (y := 46) (ci := 0) (f := 4) (fin := 0) (by decide +kernel) (by decide +kernel) (by exact ev_ob_254) rfl ?_
      intro x7 hx7
      refine ev_r_iload_n (pc := 36) (k := 2) (v := Int32.ofInt a1) (by decide +kernel) (by rfl) ?_
      refine ev_r_iast (pc := 37) ha1 hx7 (by decide +kernel) (by exact ev_ab_258) ?_
      intro s8
      refine ev_r_aload_n (pc := 38) (k := 0) (v := .ref 254) trivial (by decide +kernel) (by rfl) ?_
      refine ev_r_getC (pc := 39) (y := 21) (ci := 0) (f := 2) (fin := 1) (k' := 257) (by decide +kernel) (by decide +kernel) (by exact ev_ob_254) rfl rfl ?_
      refine ev_r_aload_n (pc := 42) (k := 0) (v := .ref 254) trivial (by decide +kernel) (by rfl) ?_
      refine ev_r_getI (pc := 43) (y := 46) (ci := 0) (f := 4) (fin := 0) (by decide +kernel) (by decide +kernel) (by exact ev_ob_254) rfl ?_
      intro x9 hx9
      refine ev_r_iload_n (pc := 46) (k := 3) (v := Int32.ofInt a2) (by decide +kernel) (by rfl) ?_
      refine ev_r_chk ?_
      intro c11
      refine ev_r_bast (pc := 47) (ty := .boolean) (Or.inr rfl) (ev_nar_bl c11) ha2 hx9 (by decide +kernel) (by exact ev_ab_257) ?_
      intro s10
      refine ev_r_aload_n (pc := 48) (k := 0) (v := .ref 254) trivial (by decide +kernel) (by rfl) ?_
      refine ev_r_dup (pc := 49) rfl (by decide +kernel) ?_
      refine ev_r_getI (pc := 50) (y := 46) (ci := 0) (f := 4) (fin := 0) (by decide +kernel) (by decide +kernel) (by exact ev_ob_254) rfl ?_
      intro x12 hx12
      refine ev_r_iconst (pc := 53) (k := 1) (by decide +kernel) ?_
      refine ev_r_iadd (pc := 54) (by decide +kernel) ?_
      intro x13 hx13
      refine ev_r_putI (pc := 55) (y := 46) (ci := 0) (f := 4) hx13 (by decide +kernel) (by decide +kernel) (by exact ev_ob_254) rfl rfl ?_
      intro s14
      refine ev_r_aload_n (pc := 58) (k := 0) (v := .ref 254) trivial (by decide +kernel) (by rfl) ?_
      refine ev_r_getI (pc := 59) (y := 46) (ci := 0) (f := 4) (fin := 0) (by decide +kernel) (by decide +kernel) (by exact ev_ob_254) rfl ?_
      intro x15 hx15
      refine ev_r_iconst (pc := 62) (k := 1) (by decide +kernel) ?_
      refine ev_r_isub (pc := 63) (by decide +kernel) ?_
      intro x16 hx16
      exact ev_r_ireturn (pc := 64) (x := x16) (v := Int32.ofInt x16) (ty := .int) hx16 (by decide +kernel) (by decide +kernel) rfl rfl
    · intro c4
      refine ev_r_iconst (pc := 16) (k := -1) (by decide +kernel) ?_
      exact ev_r_ireturn (pc := 17) (x := (-1)) (v := Int32.ofInt ((-1))) (ty := .int) (by decide) (by decide +kernel) (by decide +kernel) rfl rfl
/-- MendBench$Buffers.endCall()V -/
def jm_3 (Q : Nat)  (S : ev_St) : Option ((Unit) × ev_St) := ev_b (S.1 254 14) fun x1 => if x1 ≠ 0 then (some ((), S)) else (ev_b (S.1 254 11) fun x3 => if x3 = 0 then (some ((), S)) else (ev_b (S.1 254 12) fun x5 => if x5 < 0 then (some ((), S)) else (ev_b (S.1 254 12) fun x7 => if x7 < 1024 then (ev_b (S.1 254 12) fun x9 => ev_b (S.1 254 11) fun x10 => ev_if ((0 : Int) ≤ x9 ∧ x9 < (ev_aln 261 : Int)) (ev_b (ev_pI S 261 (Int.toNat x9) x10) fun s11 => ev_b (ev_pI s11 254 11 0) fun s12 => ev_b (s12.1 254 12) fun x13 => ev_ck (x13 + 1) fun x14 => ev_b (ev_pI s12 254 12 x14) fun s15 => ev_b (s15.1 254 12) fun x16 => ev_b (ev_pI s15 254 13 x16) fun s17 => some ((), s17))) else (some ((), S)))))
theorem jt_3 (d : Nat) (hd : 1 ≤ d) (Q : Nat)   (S : ev_St) (x : Unit) (S' : ev_St) (hJ : jm_3 Q  S = some (x, S')) : ev_Ref d 3 [.ref 254] S (ev_eU x) S' (ev_PU x) := by
  obtain ⟨d, rfl⟩ : ∃ e, d = e + 1 := ⟨d - 1, by omega⟩
  refine ev_ref_of (P := ev_PU) (lv := [(0, .ref 254)]) (by decide +kernel) (by (try simp only [ev_sum, ev_nv_cat]); first | done | rfl) (by (try simp only [lv_args, ev_nv_cat]); first | done | rfl) ?_ x S' hJ
  unfold jm_3
  refine ev_r_aload_n (pc := 0) (k := 0) (v := .ref 254) trivial (by decide +kernel) (by rfl) ?_
  refine ev_r_getI (pc := 1) (y := 50) (ci := 0) (f := 14) (fin := 0) (by decide +kernel) (by decide +kernel) (by exact ev_ob_254) rfl ?_
  intro x1 hx1
  refine ev_r_if (pc := 4) (q := .ne) (o := 27) (t := 31) (c := x1 ≠ 0) (by decide +kernel) (ev_k_ne hx1 ev_rng0) (by decide +kernel) ?_ ?_
  · intro c2
    exact ev_r_return (pc := 31) (x := ()) trivial (by decide +kernel) (by decide +kernel) rfl
  · intro c2
    refine ev_r_aload_n (pc := 7) (k := 0) (v := .ref 254) trivial (by decide +kernel) (by rfl) ?_
    refine ev_r_getI (pc := 8) (y := 54) (ci := 0) (f := 11) (fin := 0) (by decide +kernel) (by decide +kernel) (by exact ev_ob_254) rfl ?_
    intro x3 hx3
    refine ev_r_if (pc := 11) (q := .eq) (o := 20) (t := 31) (c := x3 = 0) (by decide +kernel) (ev_k_eq hx3 ev_rng0) (by decide +kernel) ?_ ?_
    · intro c4
      exact ev_r_return (pc := 31) (x := ()) trivial (by decide +kernel) (by decide +kernel) rfl
    · intro c4
      refine ev_r_aload_n (pc := 14) (k := 0) (v := .ref 254) trivial (by decide +kernel) (by rfl) ?_
      refine ev_r_getI (pc := 15) (y := 57) (ci := 0) (f := 12) (fin := 0) (by decide +kernel) (by decide +kernel) (by exact ev_ob_254) rfl ?_
      intro x5 hx5
      refine ev_r_if (pc := 18) (q := .lt) (o := 13) (t := 31) (c := x5 < 0) (by decide +kernel) (ev_k_lt hx5 ev_rng0) (by decide +kernel) ?_ ?_
      · intro c6
        exact ev_r_return (pc := 31) (x := ()) trivial (by decide +kernel) (by decide +kernel) rfl
      · intro c6
        refine ev_r_aload_n (pc := 21) (k := 0) (v := .ref 254) trivial (by decide +kernel) (by rfl) ?_
        refine ev_r_getI (pc := 22) (y := 57) (ci := 0) (f := 12) (fin := 0) (by decide +kernel) (by decide +kernel) (by exact ev_ob_254) rfl ?_
        intro x7 hx7
        refine ev_r_sipush (pc := 25) (k := 1024) (by decide +kernel) (by decide +kernel) ?_
        refine ev_r_icmp (pc := 28) (q := .lt) (o := 4) (t := 32) (c := x7 < 1024) (by decide +kernel) (ev_k_lt hx7 (by decide)) (by decide +kernel) ?_ ?_
        · intro c8
          refine ev_r_aload_n (pc := 32) (k := 0) (v := .ref 254) trivial (by decide +kernel) (by rfl) ?_
          refine ev_r_getC (pc := 33) (y := 39) (ci := 0) (f := 7) (fin := 1) (k' := 261) (by decide +kernel) (by decide +kernel) (by exact ev_ob_254) rfl rfl ?_
          refine ev_r_aload_n (pc := 36) (k := 0) (v := .ref 254) trivial (by decide +kernel) (by rfl) ?_
          refine ev_r_getI (pc := 37) (y := 57) (ci := 0) (f := 12) (fin := 0) (by decide +kernel) (by decide +kernel) (by exact ev_ob_254) rfl ?_
          intro x9 hx9
          refine ev_r_aload_n (pc := 40) (k := 0) (v := .ref 254) trivial (by decide +kernel) (by rfl) ?_
          refine ev_r_getI (pc := 41) (y := 54) (ci := 0) (f := 11) (fin := 0) (by decide +kernel) (by decide +kernel) (by exact ev_ob_254) rfl ?_
          intro x10 hx10
          refine ev_r_iast (pc := 44) hx10 hx9 (by decide +kernel) (by exact ev_ab_261) ?_
          intro s11
          refine ev_r_aload_n (pc := 45) (k := 0) (v := .ref 254) trivial (by decide +kernel) (by rfl) ?_
          refine ev_r_iconst (pc := 46) (k := 0) (by decide +kernel) ?_
          refine ev_r_putI (pc := 47) (y := 54) (ci := 0) (f := 11) (by decide) (by decide +kernel) (by decide +kernel) (by exact ev_ob_254) rfl rfl ?_
          intro s12
          refine ev_r_aload_n (pc := 50) (k := 0) (v := .ref 254) trivial (by decide +kernel) (by rfl) ?_
          refine ev_r_dup (pc := 51) rfl (by decide +kernel) ?_
          refine ev_r_getI (pc := 52) (y := 57) (ci := 0) (f := 12) (fin := 0) (by decide +kernel) (by decide +kernel) (by exact ev_ob_254) rfl ?_
          intro x13 hx13
          refine ev_r_iconst (pc := 55) (k := 1) (by decide +kernel) ?_
          refine ev_r_iadd (pc := 56) (by decide +kernel) ?_
          intro x14 hx14
          refine ev_r_putI (pc := 57) (y := 57) (ci := 0) (f := 12) hx14 (by decide +kernel) (by decide +kernel) (by exact ev_ob_254) rfl rfl ?_
          intro s15
          refine ev_r_aload_n (pc := 60) (k := 0) (v := .ref 254) trivial (by decide +kernel) (by rfl) ?_
          refine ev_r_aload_n (pc := 61) (k := 0) (v := .ref 254) trivial (by decide +kernel) (by rfl) ?_
          refine ev_r_getI (pc := 62) (y := 57) (ci := 0) (f := 12) (fin := 0) (by decide +kernel) (by decide +kernel) (by exact ev_ob_254) rfl ?_
          intro x16 hx16
          refine ev_r_putI (pc := 65) (y := 60) (ci := 0) (f := 13) hx16 (by decide +kernel) (by decide +kernel) (by exact ev_ob_254) rfl rfl ?_
          intro s17
          exact ev_r_return (pc := 68) (x := ()) trivial (by decide +kernel) (by decide +kernel) rfl
        · intro c8
          exact ev_r_return (pc := 31) (x := ()) trivial (by decide +kernel) (by decide +kernel) rfl
/-- MendBench$Buffers.hasRoom(I)Z -/
def jm_11 (Q : Nat) (a0 : Int) (S : ev_St) : Option ((Int) × ev_St) := ev_b (S.1 254 9) fun x1 => if 524288 ≤ x1 then (some (0, S)) else (ev_b (S.1 254 10) fun x3 => ev_ck (x3 + a0) fun x4 => if 1048576 < x4 then (some (0, S)) else (ev_b (S.1 254 12) fun x6 => if 1024 ≤ x6 then (some (0, S)) else (some (1, S))))
theorem jt_11 (d : Nat) (hd : 1 ≤ d) (Q : Nat) (a0 : Int) (ha0 : ev_rng a0) (S : ev_St) (x : Int) (S' : ev_St) (hJ : jm_11 Q a0 S = some (x, S')) : ev_Ref d 11 [.ref 254, .int (Int32.ofInt a0)] S (ev_eI x) S' (ev_bl x) := by
  obtain ⟨d, rfl⟩ : ∃ e, d = e + 1 := ⟨d - 1, by omega⟩
  refine ev_ref_of (P := ev_bl) (lv := [(0, .ref 254), (1, .int (Int32.ofInt a0))]) (by decide +kernel) (by (try simp only [ev_sum, ev_nv_cat]); first | done | rfl) (by (try simp only [lv_args, ev_nv_cat]); first | done | rfl) ?_ x S' hJ
  unfold jm_11
  refine ev_r_aload_n (pc := 0) (k := 0) (v := .ref 254) trivial (by decide +kernel) (by rfl) ?_
  refine ev_r_getI (pc := 1) (y := 74) (ci := 0) (f := 9) (fin := 0) (by decide +kernel) (by decide +kernel) (by exact ev_ob_254) rfl ?_
  intro x1 hx1
  refine ev_r_ldc (pc := 4) (y := 115) (k := 524288) (by decide +kernel) (by decide +kernel) ?_
  refine ev_r_icmp (pc := 6) (q := .ge) (o := 28) (t := 34) (c := 524288 ≤ x1) (by decide +kernel) (ev_k_ge hx1 (by decide)) (by decide +kernel) ?_ ?_
  · intro c2
    refine ev_r_iconst (pc := 34) (k := 0) (by decide +kernel) ?_
    exact ev_r_ireturn (pc := 35) (x := 0) (v := Int32.ofInt 0) (ty := .boolean) (by decide : ev_bl 0) (by decide +kernel) (by decide +kernel) (ev_ret_bl (by decide : ev_bl 0)) rfl
  · intro c2
    refine ev_r_aload_n (pc := 9) (k := 0) (v := .ref 254) trivial (by decide +kernel) (by rfl) ?_
    refine ev_r_getI (pc := 10) (y := 82) (ci := 0) (f := 10) (fin := 0) (by decide +kernel) (by decide +kernel) (by exact ev_ob_254) rfl ?_
    intro x3 hx3
    refine ev_r_iload_n (pc := 13) (k := 1) (v := Int32.ofInt a0) (by decide +kernel) (by rfl) ?_
    refine ev_r_iadd (pc := 14) (by decide +kernel) ?_
    intro x4 hx4
    refine ev_r_ldc (pc := 15) (y := 116) (k := 1048576) (by decide +kernel) (by decide +kernel) ?_
    refine ev_r_icmp (pc := 17) (q := .gt) (o := 17) (t := 34) (c := 1048576 < x4) (by decide +kernel) (ev_k_gt hx4 (by decide)) (by decide +kernel) ?_ ?_
    · intro c5
      refine ev_r_iconst (pc := 34) (k := 0) (by decide +kernel) ?_
      exact ev_r_ireturn (pc := 35) (x := 0) (v := Int32.ofInt 0) (ty := .boolean) (by decide : ev_bl 0) (by decide +kernel) (by decide +kernel) (ev_ret_bl (by decide : ev_bl 0)) rfl
    · intro c5
      refine ev_r_aload_n (pc := 20) (k := 0) (v := .ref 254) trivial (by decide +kernel) (by rfl) ?_
      refine ev_r_getI (pc := 21) (y := 57) (ci := 0) (f := 12) (fin := 0) (by decide +kernel) (by decide +kernel) (by exact ev_ob_254) rfl ?_
      intro x6 hx6
      refine ev_r_sipush (pc := 24) (k := 1024) (by decide +kernel) (by decide +kernel) ?_
      refine ev_r_icmp (pc := 27) (q := .ge) (o := 7) (t := 34) (c := 1024 ≤ x6) (by decide +kernel) (ev_k_ge hx6 (by decide)) (by decide +kernel) ?_ ?_
      · intro c7
        refine ev_r_iconst (pc := 34) (k := 0) (by decide +kernel) ?_
        exact ev_r_ireturn (pc := 35) (x := 0) (v := Int32.ofInt 0) (ty := .boolean) (by decide : ev_bl 0) (by decide +kernel) (by decide +kernel) (ev_ret_bl (by decide : ev_bl 0)) rfl
      · intro c7
        refine ev_r_iconst (pc := 30) (k := 1) (by decide +kernel) ?_
        refine ev_r_goto (pc := 31) (o := 4) (t := 35) (by decide +kernel) (by decide +kernel) ?_
        exact ev_r_ireturn (pc := 35) (x := 1) (v := Int32.ofInt 1) (ty := .boolean) (by decide : ev_bl 1) (by decide +kernel) (by decide +kernel) (ev_ret_bl (by decide : ev_bl 1)) rfl
/-- MendBench$Buffers.forget()V -/
def jm_12 (Q : Nat)  (S : ev_St) : Option ((Unit) × ev_St) := ev_b (ev_pI S 254 9 0) fun s1 => ev_b (ev_pI s1 254 10 0) fun s2 => ev_b (ev_pI s2 254 11 0) fun s3 => ev_b (ev_pI s3 254 12 0) fun s4 => ev_b (ev_pI s4 254 13 0) fun s5 => some ((), s5)
theorem jt_12 (d : Nat) (hd : 1 ≤ d) (Q : Nat)   (S : ev_St) (x : Unit) (S' : ev_St) (hJ : jm_12 Q  S = some (x, S')) : ev_Ref d 12 [.ref 254] S (ev_eU x) S' (ev_PU x) := by
  obtain ⟨d, rfl⟩ : ∃ e, d = e + 1 := ⟨d - 1, by omega⟩
  refine ev_ref_of (P := ev_PU) (lv := [(0, .ref 254)]) (by decide +kernel) (by (try simp only [ev_sum, ev_nv_cat]); first | done | rfl) (by (try simp only [lv_args, ev_nv_cat]); first | done | rfl) ?_ x S' hJ
  unfold jm_12
  refine ev_r_aload_n (pc := 0) (k := 0) (v := .ref 254) trivial (by decide +kernel) (by rfl) ?_
  refine ev_r_iconst (pc := 1) (k := 0) (by decide +kernel) ?_
  refine ev_r_putI (pc := 2) (y := 74) (ci := 0) (f := 9) (by decide) (by decide +kernel) (by decide +kernel) (by exact ev_ob_254) rfl rfl ?_
  intro s1
  refine ev_r_aload_n (pc := 5) (k := 0) (v := .ref 254) trivial (by decide +kernel) (by rfl) ?_
  refine ev_r_iconst (pc := 6) (k := 0) (by decide +kernel) ?_
  refine ev_r_putI (pc := 7) (y := 82) (ci := 0) (f := 10) (by decide) (by decide +kernel) (by decide +kernel) (by exact ev_ob_254) rfl rfl ?_
  intro s2
  refine ev_r_aload_n (pc := 10) (k := 0) (v := .ref 254) trivial (by decide +kernel) (by rfl) ?_
  refine ev_r_iconst (pc := 11) (k := 0) (by decide +kernel) ?_
  refine ev_r_putI (pc := 12) (y := 54) (ci := 0) (f := 11) (by decide) (by decide +kernel) (by decide +kernel) (by exact ev_ob_254) rfl rfl ?_
  intro s3
  refine ev_r_aload_n (pc := 15) (k := 0) (v := .ref 254) trivial (by decide +kernel) (by rfl) ?_
  refine ev_r_iconst (pc := 16) (k := 0) (by decide +kernel) ?_
  refine ev_r_putI (pc := 17) (y := 57) (ci := 0) (f := 12) (by decide) (by decide +kernel) (by decide +kernel) (by exact ev_ob_254) rfl rfl ?_
  intro s4
  refine ev_r_aload_n (pc := 20) (k := 0) (v := .ref 254) trivial (by decide +kernel) (by rfl) ?_
  refine ev_r_iconst (pc := 21) (k := 0) (by decide +kernel) ?_
  refine ev_r_putI (pc := 22) (y := 60) (ci := 0) (f := 13) (by decide) (by decide +kernel) (by decide +kernel) (by exact ev_ob_254) rfl rfl ?_
  intro s5
  exact ev_r_return (pc := 25) (x := ()) trivial (by decide +kernel) (by decide +kernel) rfl
/-- MendBench$Buffers.writeEdit(II)V -/
def jm_13 (Q : Nat) (a0 : Int) (a1 : Int) (S : ev_St) : Option ((Unit) × ev_St) := ev_if (1024 ≠ 0) (ev_b (ev_idiv a0 1024) fun x1 => if a0 < 0 then (some ((), S)) else (if x1 < 512 then (ev_if ((0 : Int) ≤ x1 ∧ x1 < (512 : Int)) (ev_b (S.2.2.1 259 (Int.toNat x1)) fun r4 => if (r4 : Nat) = 0 then (ev_b (ev_nwc S false) fun s8 => ev_if ((0 : Int) ≤ x1 ∧ x1 < (512 : Int)) (ev_b (ev_pR s8 259 (Int.toNat x1) ((ev_sN S) + 1)) fun s10 => ev_if (1024 ≠ 0) (ev_b (ev_irem a0 1024) fun x12 => ev_if ((0 : Int) ≤ x12 ∧ x12 < (1024 : Int)) (ev_b (ev_pI s10 ((ev_sN S)) (Int.toNat x12) a1) fun s13 => some ((), s13))))) else (ev_if (1024 ≠ 0) (ev_b (ev_irem a0 1024) fun x6 => ev_if ((0 : Int) ≤ x6 ∧ x6 < (1024 : Int)) (ev_b (ev_pI S ((r4 - 1)) (Int.toNat x6) a1) fun s7 => some ((), s7)))))) else (some ((), S))))
theorem jt_13 (d : Nat) (hd : 1 ≤ d) (Q : Nat) (a0 : Int) (a1 : Int) (ha0 : ev_rng a0) (ha1 : ev_rng a1) (S : ev_St) (x : Unit) (S' : ev_St) (hJ : jm_13 Q a0 a1 S = some (x, S')) : ev_Ref d 13 [.ref 254, .int (Int32.ofInt a0), .int (Int32.ofInt a1)] S (ev_eU x) S' (ev_PU x) := by
  obtain ⟨d, rfl⟩ : ∃ e, d = e + 1 := ⟨d - 1, by omega⟩
  refine ev_ref_of (P := ev_PU) (lv := [(0, .ref 254), (1, .int (Int32.ofInt a0)), (2, .int (Int32.ofInt a1))]) (by decide +kernel) (by (try simp only [ev_sum, ev_nv_cat]); first | done | rfl) (by (try simp only [lv_args, ev_nv_cat]); first | done | rfl) ?_ x S' hJ
  unfold jm_13
  refine ev_r_iload_n (pc := 0) (k := 1) (v := Int32.ofInt a0) (by decide +kernel) (by rfl) ?_
  refine ev_r_sipush (pc := 1) (k := 1024) (by decide +kernel) (by decide +kernel) ?_
  refine ev_r_idiv (pc := 4) (by decide) (by decide +kernel) ?_
  intro x1 hx1
  refine ev_r_istore_n (pc := 5) (k := 3) (by decide +kernel) (by decide +kernel) rfl ?_
  refine ev_r_iload_n (pc := 6) (k := 1) (v := Int32.ofInt a0) (by decide +kernel) (by exact (ev_l1 (by rfl) (by decide) (by decide))) ?_
  refine ev_r_if (pc := 7) (q := .lt) (o := 10) (t := 17) (c := a0 < 0) (by decide +kernel) (ev_k_lt ha0 ev_rng0) (by decide +kernel) ?_ ?_
  · intro c2
    exact ev_r_return (pc := 17) (x := ()) trivial (by decide +kernel) (by decide +kernel) rfl
  · intro c2
    refine ev_r_iload_n (pc := 10) (k := 3) (v := Int32.ofInt x1) (by decide +kernel) (by exact ev_lk_st1_self) ?_
    refine ev_r_sipush (pc := 11) (k := 512) (by decide +kernel) (by decide +kernel) ?_
    refine ev_r_icmp (pc := 14) (q := .lt) (o := 4) (t := 18) (c := x1 < 512) (by decide +kernel) (ev_k_lt hx1 (by decide)) (by decide +kernel) ?_ ?_
    · intro c3
      refine ev_r_aload_n (pc := 18) (k := 0) (v := .ref 254) trivial (by decide +kernel) (by exact (ev_l1 (by rfl) (by decide) (by decide))) ?_
      refine ev_r_getC (pc := 19) (y := 29) (ci := 0) (f := 5) (fin := 1) (k' := 259) (by decide +kernel) (by decide +kernel) (by exact ev_ob_254) rfl rfl ?_
      refine ev_r_iload_n (pc := 22) (k := 3) (v := Int32.ofInt x1) (by decide +kernel) (by exact ev_lk_st1_self) ?_
      refine ev_r_aldc (pc := 23) (N := 512) (t := 102) (C := .int) (by decide +kernel) rfl hx1 (by decide +kernel) ?_
      intro r4 hr4
      refine ev_r_astore (pc := 24) (k := 4) (ev_isR_nv _) (by decide +kernel) (by decide +kernel) rfl ?_
      refine ev_r_aload (pc := 26) (k := 4) (v := ev_nv r4) (ev_isR_nv _) (by decide +kernel) (by exact ev_lk_st1_self) ?_
      refine ev_r_ifnonnull (pc := 28) (r := r4) (o := 18) (t := 46) (by decide +kernel) (by decide +kernel) ?_ ?_
      · intro c5
        refine ev_r_aload (pc := 46) (k := 4) (v := ev_nv r4) (ev_isR_nv _) (by decide +kernel) (by exact ev_lk_st1_self) ?_
        refine ev_r_iload_n (pc := 48) (k := 1) (v := Int32.ofInt a0) (by decide +kernel) (by exact (ev_l1 (ev_l1 (by rfl) (by decide) (by decide)) (by decide) (by decide))) ?_
        refine ev_r_sipush (pc := 49) (k := 1024) (by decide +kernel) (by decide +kernel) ?_
        refine ev_r_irem (pc := 52) (by decide) (by decide +kernel) ?_
        intro x6 hx6
        refine ev_r_iload_n (pc := 53) (k := 2) (v := Int32.ofInt a1) (by decide +kernel) (by exact (ev_l1 (ev_lk_st1 (by rfl) (by decide) rfl) (by decide) (by decide))) ?_
        refine ev_r_dr (r := r4) (fun v => [.int (Int32.ofInt a1), .int (Int32.ofInt x6), v]) c5 ?_
        refine ev_r_iastc (pc := 54) (by exact (hr4.resolve_left c5)) ha1 hx6 (by decide +kernel) ?_
        intro s7
        exact ev_r_return (pc := 55) (x := ()) trivial (by decide +kernel) (by decide +kernel) rfl
      · intro c5
        refine ev_r_sipush (pc := 31) (k := 1024) (by decide +kernel) (by decide +kernel) ?_
        refine ev_r_newc (pc := 34) (b := false) (by decide +kernel) (Or.inl ⟨rfl, rfl⟩) ?_
        intro s8 c9
        refine ev_r_astore (pc := 36) (k := 4) trivial (by decide +kernel) (by decide +kernel) rfl ?_
        refine ev_r_aload_n (pc := 38) (k := 0) (v := .ref 254) trivial (by decide +kernel) (by exact (ev_l1 (ev_l1 (ev_l1 (by rfl) (by decide) (by decide)) (by decide) (by decide)) (by decide) (by decide))) ?_
        refine ev_r_getC (pc := 39) (y := 29) (ci := 0) (f := 5) (fin := 1) (k' := 259) (by decide +kernel) (by decide +kernel) (by exact ev_ob_254) rfl rfl ?_
        refine ev_r_iload_n (pc := 42) (k := 3) (v := Int32.ofInt x1) (by decide +kernel) (by exact (ev_lk_st1 (ev_lk_st1 ev_lk_st1_self (by decide) rfl) (by decide) rfl)) ?_
        refine ev_r_aload (pc := 43) (k := 4) (v := .ref ((ev_sN S))) trivial (by decide +kernel) (by exact ev_lk_st1_self) ?_
        refine ev_r_astc (pc := 45) (b := false) (N := 512) (t := 102) (by decide +kernel) rfl rfl c9 hx1 (by decide +kernel) ?_
        intro s10 c11
        refine ev_r_aload (pc := 46) (k := 4) (v := .ref ((ev_sN S))) trivial (by decide +kernel) (by exact ev_lk_st1_self) ?_
        refine ev_r_iload_n (pc := 48) (k := 1) (v := Int32.ofInt a0) (by decide +kernel) (by exact (ev_l1 (ev_l1 (ev_l1 (by rfl) (by decide) (by decide)) (by decide) (by decide)) (by decide) (by decide))) ?_
        refine ev_r_sipush (pc := 49) (k := 1024) (by decide +kernel) (by decide +kernel) ?_
        refine ev_r_irem (pc := 52) (by decide) (by decide +kernel) ?_
        intro x12 hx12
        refine ev_r_iload_n (pc := 53) (k := 2) (v := Int32.ofInt a1) (by decide +kernel) (by exact (ev_l1 (ev_l1 (ev_lk_st1 (by rfl) (by decide) rfl) (by decide) (by decide)) (by decide) (by decide))) ?_
        refine ev_r_iastc (pc := 54) (by exact c11) ha1 hx12 (by decide +kernel) ?_
        intro s13
        exact ev_r_return (pc := 55) (x := ()) trivial (by decide +kernel) (by decide +kernel) rfl
    · intro c3
      exact ev_r_return (pc := 17) (x := ()) trivial (by decide +kernel) (by decide +kernel) rfl
/-- MendBench$Text.at(I)I -/
def jm_151 (Q : Nat) (k : Nat) (a0 : Int) (S : ev_St) : Option ((Int) × ev_St) := if a0 < 0 then (some ((-1), S)) else (ev_b (S.1 k 1) fun x2 => if x2 ≤ a0 then (some ((-1), S)) else (if 160 ≤ a0 then (some ((-1), S)) else (ev_if ((0 : Int) ≤ a0 ∧ a0 < (ev_aln ((k + 1)) : Int)) (ev_b (S.1 ((k + 1)) (Int.toNat a0)) fun x5 => some (x5, S)))))
theorem jt_151 (d : Nat) (hd : 1 ≤ d) (Q : Nat) (k : Nat) (a0 : Int) (hk : ev_isOb k 10 = true) (ha0 : ev_rng a0) (S : ev_St) (x : Int) (S' : ev_St) (hJ : jm_151 Q k a0 S = some (x, S')) : ev_Ref d 151 [.ref k, .int (Int32.ofInt a0)] S (ev_eI x) S' (ev_rng x) := by
  obtain ⟨d, rfl⟩ : ∃ e, d = e + 1 := ⟨d - 1, by omega⟩
  refine ev_ref_of (P := ev_rng) (lv := [(0, .ref k), (1, .int (Int32.ofInt a0))]) (by decide +kernel) (by (try simp only [ev_sum, ev_nv_cat]); first | done | rfl) (by (try simp only [lv_args, ev_nv_cat]); first | done | rfl) ?_ x S' hJ
  unfold jm_151
  refine ev_r_iload_n (pc := 0) (k := 1) (v := Int32.ofInt a0) (by decide +kernel) (by rfl) ?_
  refine ev_r_if (pc := 1) (q := .lt) (o := 27) (t := 28) (c := a0 < 0) (by decide +kernel) (ev_k_lt ha0 ev_rng0) (by decide +kernel) ?_ ?_
  · intro c1
    refine ev_r_iconst (pc := 28) (k := -1) (by decide +kernel) ?_
    exact ev_r_ireturn (pc := 29) (x := (-1)) (v := Int32.ofInt ((-1))) (ty := .int) (by decide) (by decide +kernel) (by decide +kernel) rfl rfl
  · intro c1
    refine ev_r_iload_n (pc := 4) (k := 1) (v := Int32.ofInt a0) (by decide +kernel) (by rfl) ?_
    refine ev_r_aload_n (pc := 5) (k := 0) (v := .ref k) trivial (by decide +kernel) (by rfl) ?_
    refine ev_r_getI (pc := 6) (y := 15) (ci := 10) (f := 1) (fin := 0) (by decide +kernel) (by decide +kernel) (by exact hk) rfl ?_
    intro x2 hx2
    refine ev_r_icmp (pc := 9) (q := .ge) (o := 19) (t := 28) (c := x2 ≤ a0) (by decide +kernel) (ev_k_ge ha0 hx2) (by decide +kernel) ?_ ?_
    · intro c3
      refine ev_r_iconst (pc := 28) (k := -1) (by decide +kernel) ?_
      exact ev_r_ireturn (pc := 29) (x := (-1)) (v := Int32.ofInt ((-1))) (ty := .int) (by decide) (by decide +kernel) (by decide +kernel) rfl rfl
    · intro c3
      refine ev_r_iload_n (pc := 12) (k := 1) (v := Int32.ofInt a0) (by decide +kernel) (by rfl) ?_
      refine ev_r_sipush (pc := 13) (k := 160) (by decide +kernel) (by decide +kernel) ?_
      refine ev_r_icmp (pc := 16) (q := .ge) (o := 12) (t := 28) (c := 160 ≤ a0) (by decide +kernel) (ev_k_ge ha0 (by decide)) (by decide +kernel) ?_ ?_
      · intro c4
        refine ev_r_iconst (pc := 28) (k := -1) (by decide +kernel) ?_
        exact ev_r_ireturn (pc := 29) (x := (-1)) (v := Int32.ofInt ((-1))) (ty := .int) (by decide) (by decide +kernel) (by decide +kernel) rfl rfl
      · intro c4
        refine ev_r_aload_n (pc := 19) (k := 0) (v := .ref k) trivial (by decide +kernel) (by rfl) ?_
        refine ev_r_getC (pc := 20) (y := 11) (ci := 10) (f := 0) (fin := 1) (k' := (k + 1)) (by decide +kernel) (by decide +kernel) (by exact hk) rfl rfl ?_
        refine ev_r_iload_n (pc := 23) (k := 1) (v := Int32.ofInt a0) (by decide +kernel) (by rfl) ?_
        refine ev_r_iald (pc := 24) ha0 (by decide +kernel) (by exact (ev_fo_10_0 hk)) ?_
        intro x5 hx5
        refine ev_r_goto (pc := 25) (o := 4) (t := 29) (by decide +kernel) (by decide +kernel) ?_
        exact ev_r_ireturn (pc := 29) (x := x5) (v := Int32.ofInt x5) (ty := .int) hx5 (by decide +kernel) (by decide +kernel) rfl rfl
/-- MendBench$Buffers.writeSign(II)V -/
def jm_15 (Q : Nat) (a0 : Int) (a1 : Int) (S : ev_St) : Option ((Unit) × ev_St) := ev_if (1024 ≠ 0) (ev_b (ev_idiv a0 1024) fun x1 => if a0 < 0 then (some ((), S)) else (if x1 < 1024 then (ev_if ((0 : Int) ≤ x1 ∧ x1 < (1024 : Int)) (ev_b (S.2.2.1 260 (Int.toNat x1)) fun r4 => if (r4 : Nat) = 0 then (ev_b (ev_nwc S true) fun s10 => ev_if ((0 : Int) ≤ x1 ∧ x1 < (1024 : Int)) (ev_b (ev_pR s10 260 (Int.toNat x1) ((ev_sN S) + 1)) fun s12 => ev_if (1024 ≠ 0) (ev_b (ev_irem a0 1024) fun x14 => ev_b (ev_i2b a1) fun x15 => ev_if (narrow .byte (.int (Int32.ofInt x15)) = .int (Int32.ofInt x15)) (ev_if ((0 : Int) ≤ x14 ∧ x14 < (1024 : Int)) (ev_b (ev_pI s12 ((ev_sN S)) (Int.toNat x14) x15) fun s16 => some ((), s16)))))) else (ev_if (1024 ≠ 0) (ev_b (ev_irem a0 1024) fun x6 => ev_b (ev_i2b a1) fun x7 => ev_if (narrow .byte (.int (Int32.ofInt x7)) = .int (Int32.ofInt x7)) (ev_if ((0 : Int) ≤ x6 ∧ x6 < (1024 : Int)) (ev_b (ev_pI S ((r4 - 1)) (Int.toNat x6) x7) fun s8 => some ((), s8))))))) else (some ((), S))))
theorem jt_15 (d : Nat) (hd : 1 ≤ d) (Q : Nat) (a0 : Int) (a1 : Int) (ha0 : ev_rng a0) (ha1 : ev_rng a1) (S : ev_St) (x : Unit) (S' : ev_St) (hJ : jm_15 Q a0 a1 S = some (x, S')) : ev_Ref d 15 [.ref 254, .int (Int32.ofInt a0), .int (Int32.ofInt a1)] S (ev_eU x) S' (ev_PU x) := by
  obtain ⟨d, rfl⟩ : ∃ e, d = e + 1 := ⟨d - 1, by omega⟩
  refine ev_ref_of (P := ev_PU) (lv := [(0, .ref 254), (1, .int (Int32.ofInt a0)), (2, .int (Int32.ofInt a1))]) (by decide +kernel) (by (try simp only [ev_sum, ev_nv_cat]); first | done | rfl) (by (try simp only [lv_args, ev_nv_cat]); first | done | rfl) ?_ x S' hJ
  unfold jm_15
  refine ev_r_iload_n (pc := 0) (k := 1) (v := Int32.ofInt a0) (by decide +kernel) (by rfl) ?_
  refine ev_r_sipush (pc := 1) (k := 1024) (by decide +kernel) (by decide +kernel) ?_
  refine ev_r_idiv (pc := 4) (by decide) (by decide +kernel) ?_
  intro x1 hx1
  refine ev_r_istore_n (pc := 5) (k := 3) (by decide +kernel) (by decide +kernel) rfl ?_
  refine ev_r_iload_n (pc := 6) (k := 1) (v := Int32.ofInt a0) (by decide +kernel) (by exact (ev_l1 (by rfl) (by decide) (by decide))) ?_
  refine ev_r_if (pc := 7) (q := .lt) (o := 10) (t := 17) (c := a0 < 0) (by decide +kernel) (ev_k_lt ha0 ev_rng0) (by decide +kernel) ?_ ?_
  · intro c2
    exact ev_r_return (pc := 17) (x := ()) trivial (by decide +kernel) (by decide +kernel) rfl
  · intro c2
    refine ev_r_iload_n (pc := 10) (k := 3) (v := Int32.ofInt x1) (by decide +kernel) (by exact ev_lk_st1_self) ?_
    refine ev_r_sipush (pc := 11) (k := 1024) (by decide +kernel) (by decide +kernel) ?_
    refine ev_r_icmp (pc := 14) (q := .lt) (o := 4) (t := 18) (c := x1 < 1024) (by decide +kernel) (ev_k_lt hx1 (by decide)) (by decide +kernel) ?_ ?_
    · intro c3
      refine ev_r_aload_n (pc := 18) (k := 0) (v := .ref 254) trivial (by decide +kernel) (by exact (ev_l1 (by rfl) (by decide) (by decide))) ?_
      refine ev_r_getC (pc := 19) (y := 35) (ci := 0) (f := 6) (fin := 1) (k' := 260) (by decide +kernel) (by decide +kernel) (by exact ev_ob_254) rfl rfl ?_
      refine ev_r_iload_n (pc := 22) (k := 3) (v := Int32.ofInt x1) (by decide +kernel) (by exact ev_lk_st1_self) ?_
      refine ev_r_aldc (pc := 23) (N := 1024) (t := 103) (C := .byte) (by decide +kernel) rfl hx1 (by decide +kernel) ?_
      intro r4 hr4
      refine ev_r_astore (pc := 24) (k := 4) (ev_isR_nv _) (by decide +kernel) (by decide +kernel) rfl ?_
      refine ev_r_aload (pc := 26) (k := 4) (v := ev_nv r4) (ev_isR_nv _) (by decide +kernel) (by exact ev_lk_st1_self) ?_
      refine ev_r_ifnonnull (pc := 28) (r := r4) (o := 18) (t := 46) (by decide +kernel) (by decide +kernel) ?_ ?_
      · intro c5
        refine ev_r_aload (pc := 46) (k := 4) (v := ev_nv r4) (ev_isR_nv _) (by decide +kernel) (by exact ev_lk_st1_self) ?_
        refine ev_r_iload_n (pc := 48) (k := 1) (v := Int32.ofInt a0) (by decide +kernel) (by exact (ev_l1 (ev_l1 (by rfl) (by decide) (by decide)) (by decide) (by decide))) ?_
        refine ev_r_sipush (pc := 49) (k := 1024) (by decide +kernel) (by decide +kernel) ?_
        refine ev_r_irem (pc := 52) (by decide) (by decide +kernel) ?_
        intro x6 hx6
        refine ev_r_iload_n (pc := 53) (k := 2) (v := Int32.ofInt a1) (by decide +kernel) (by exact (ev_l1 (ev_lk_st1 (by rfl) (by decide) rfl) (by decide) (by decide))) ?_
        refine ev_r_toI (pc := 54) (i := .i2b) (len := 1) (pc' := 55) (by decide +kernel) rfl ?_
        intro x7 hx7
        refine ev_r_dr (r := r4) (fun v => [.int (Int32.ofInt x7), .int (Int32.ofInt x6), v]) c5 ?_
        refine ev_r_chk ?_
        intro c9
        refine ev_r_bastc (pc := 55) (by exact (hr4.resolve_left c5)) c9 hx7 hx6 (by decide +kernel) ?_
        intro s8
        exact ev_r_return (pc := 56) (x := ()) trivial (by decide +kernel) (by decide +kernel) rfl
      · intro c5
        refine ev_r_sipush (pc := 31) (k := 1024) (by decide +kernel) (by decide +kernel) ?_
        refine ev_r_newc (pc := 34) (b := true) (by decide +kernel) (Or.inr ⟨rfl, rfl⟩) ?_
        intro s10 c11
        refine ev_r_astore (pc := 36) (k := 4) trivial (by decide +kernel) (by decide +kernel) rfl ?_
        refine ev_r_aload_n (pc := 38) (k := 0) (v := .ref 254) trivial (by decide +kernel) (by exact (ev_l1 (ev_l1 (ev_l1 (by rfl) (by decide) (by decide)) (by decide) (by decide)) (by decide) (by decide))) ?_
        refine ev_r_getC (pc := 39) (y := 35) (ci := 0) (f := 6) (fin := 1) (k' := 260) (by decide +kernel) (by decide +kernel) (by exact ev_ob_254) rfl rfl ?_
        refine ev_r_iload_n (pc := 42) (k := 3) (v := Int32.ofInt x1) (by decide +kernel) (by exact (ev_lk_st1 (ev_lk_st1 ev_lk_st1_self (by decide) rfl) (by decide) rfl)) ?_
        refine ev_r_aload (pc := 43) (k := 4) (v := .ref ((ev_sN S))) trivial (by decide +kernel) (by exact ev_lk_st1_self) ?_
        refine ev_r_astc (pc := 45) (b := true) (N := 1024) (t := 103) (by decide +kernel) rfl rfl c11 hx1 (by decide +kernel) ?_
        intro s12 c13
        refine ev_r_aload (pc := 46) (k := 4) (v := .ref ((ev_sN S))) trivial (by decide +kernel) (by exact ev_lk_st1_self) ?_
        refine ev_r_iload_n (pc := 48) (k := 1) (v := Int32.ofInt a0) (by decide +kernel) (by exact (ev_l1 (ev_l1 (ev_l1 (by rfl) (by decide) (by decide)) (by decide) (by decide)) (by decide) (by decide))) ?_
        refine ev_r_sipush (pc := 49) (k := 1024) (by decide +kernel) (by decide +kernel) ?_
        refine ev_r_irem (pc := 52) (by decide) (by decide +kernel) ?_
        intro x14 hx14
        refine ev_r_iload_n (pc := 53) (k := 2) (v := Int32.ofInt a1) (by decide +kernel) (by exact (ev_l1 (ev_l1 (ev_lk_st1 (by rfl) (by decide) rfl) (by decide) (by decide)) (by decide) (by decide))) ?_
        refine ev_r_toI (pc := 54) (i := .i2b) (len := 1) (pc' := 55) (by decide +kernel) rfl ?_
        intro x15 hx15
        refine ev_r_chk ?_
        intro c17
        refine ev_r_bastc (pc := 55) (by exact c13) c17 hx15 hx14 (by decide +kernel) ?_
        intro s16
        exact ev_r_return (pc := 56) (x := ()) trivial (by decide +kernel) (by decide +kernel) rfl
    · intro c3
      exact ev_r_return (pc := 17) (x := ()) trivial (by decide +kernel) (by decide +kernel) rfl
/-- MendBench$Buffers.readEdit(I)I -/
def jm_14 (Q : Nat) (a0 : Int) (S : ev_St) : Option ((Int) × ev_St) := if a0 < 0 then (if (0 : Nat) = 0 then (some (0, S)) else (none)) else (ev_if (1024 ≠ 0) (ev_b (ev_idiv a0 1024) fun x3 => if 512 ≤ x3 then (if (0 : Nat) = 0 then (some (0, S)) else (none)) else (ev_if (1024 ≠ 0) (ev_b (ev_idiv a0 1024) fun x6 => ev_if ((0 : Int) ≤ x6 ∧ x6 < (512 : Int)) (ev_b (S.2.2.1 259 (Int.toNat x6)) fun r7 => if (r7 : Nat) = 0 then (some (0, S)) else (ev_if (1024 ≠ 0) (ev_b (ev_irem a0 1024) fun x9 => ev_if ((0 : Int) ≤ x9 ∧ x9 < (1024 : Int)) (ev_b (S.1 ((r7 - 1)) (Int.toNat x9)) fun x10 => some (x10, S)))))))))
theorem jt_14 (d : Nat) (hd : 1 ≤ d) (Q : Nat) (a0 : Int) (ha0 : ev_rng a0) (S : ev_St) (x : Int) (S' : ev_St) (hJ : jm_14 Q a0 S = some (x, S')) : ev_Ref d 14 [.ref 254, .int (Int32.ofInt a0)] S (ev_eI x) S' (ev_rng x) := by
  obtain ⟨d, rfl⟩ : ∃ e, d = e + 1 := ⟨d - 1, by omega⟩
  refine ev_ref_of (P := ev_rng) (lv := [(0, .ref 254), (1, .int (Int32.ofInt a0))]) (by decide +kernel) (by (try simp only [ev_sum, ev_nv_cat]); first | done | rfl) (by (try simp only [lv_args, ev_nv_cat]); first | done | rfl) ?_ x S' hJ
  unfold jm_14
  refine ev_r_iload_n (pc := 0) (k := 1) (v := Int32.ofInt a0) (by decide +kernel) (by rfl) ?_
  refine ev_r_if (pc := 1) (q := .lt) (o := 27) (t := 28) (c := a0 < 0) (by decide +kernel) (ev_k_lt ha0 ev_rng0) (by decide +kernel) ?_ ?_
  · intro c1
    refine ev_r_null (pc := 28) (by decide +kernel) ?_
    refine ev_r_astore_n (pc := 29) (k := 2) (ev_isR_nv _) (by decide +kernel) (by decide +kernel) rfl ?_
    refine ev_r_aload_n (pc := 30) (k := 2) (v := ev_nv 0) (ev_isR_nv _) (by decide +kernel) (by exact ev_lk_st1_self) ?_
    refine ev_r_ifnonnull (pc := 31) (r := 0) (o := 7) (t := 38) (by decide +kernel) (by decide +kernel) ?_ ?_
    · intro c2
      exact absurd rfl c2
    · intro c2
      refine ev_r_iconst (pc := 34) (k := 0) (by decide +kernel) ?_
      refine ev_r_goto (pc := 35) (o := 10) (t := 45) (by decide +kernel) (by decide +kernel) ?_
      exact ev_r_ireturn (pc := 45) (x := 0) (v := Int32.ofInt 0) (ty := .int) (by decide) (by decide +kernel) (by decide +kernel) rfl rfl
  · intro c1
    refine ev_r_iload_n (pc := 4) (k := 1) (v := Int32.ofInt a0) (by decide +kernel) (by rfl) ?_
    refine ev_r_sipush (pc := 5) (k := 1024) (by decide +kernel) (by decide +kernel) ?_
    refine ev_r_idiv (pc := 8) (by decide) (by decide +kernel) ?_
    intro x3 hx3
    refine ev_r_sipush (pc := 9) (k := 512) (by decide +kernel) (by decide +kernel) ?_
    refine ev_r_icmp (pc := 12) (q := .ge) (o := 16) (t := 28) (c := 512 ≤ x3) (by decide +kernel) (ev_k_ge hx3 (by decide)) (by decide +kernel) ?_ ?_
    · intro c4
      refine ev_r_null (pc := 28) (by decide +kernel) ?_
      refine ev_r_astore_n (pc := 29) (k := 2) (ev_isR_nv _) (by decide +kernel) (by decide +kernel) rfl ?_
      refine ev_r_aload_n (pc := 30) (k := 2) (v := ev_nv 0) (ev_isR_nv _) (by decide +kernel) (by exact ev_lk_st1_self) ?_
      refine ev_r_ifnonnull (pc := 31) (r := 0) (o := 7) (t := 38) (by decide +kernel) (by decide +kernel) ?_ ?_
      · intro c5
        exact absurd rfl c5
      · intro c5
        refine ev_r_iconst (pc := 34) (k := 0) (by decide +kernel) ?_
        refine ev_r_goto (pc := 35) (o := 10) (t := 45) (by decide +kernel) (by decide +kernel) ?_
        exact ev_r_ireturn (pc := 45) (x := 0) (v := Int32.ofInt 0) (ty := .int) (by decide) (by decide +kernel) (by decide +kernel) rfl rfl
    · intro c4
      refine ev_r_aload_n (pc := 15) (k := 0) (v := .ref 254) trivial (by decide +kernel) (by rfl) ?_
      refine ev_r_getC (pc := 16) (y := 29) (ci := 0) (f := 5) (fin := 1) (k' := 259) (by decide +kernel) (by decide +kernel) (by exact ev_ob_254) rfl rfl ?_
      refine ev_r_iload_n (pc := 19) (k := 1) (v := Int32.ofInt a0) (by decide +kernel) (by rfl) ?_
      refine ev_r_sipush (pc := 20) (k := 1024) (by decide +kernel) (by decide +kernel) ?_
      refine ev_r_idiv (pc := 23) (by decide) (by decide +kernel) ?_
      intro x6 hx6
      refine ev_r_aldc (pc := 24) (N := 512) (t := 102) (C := .int) (by decide +kernel) rfl hx6 (by decide +kernel) ?_
      intro r7 hr7
      refine ev_r_goto (pc := 25) (o := 4) (t := 29) (by decide +kernel) (by decide +kernel) ?_
      refine ev_r_astore_n (pc := 29) (k := 2) (ev_isR_nv _) (by decide +kernel) (by decide +kernel) rfl ?_
      refine ev_r_aload_n (pc := 30) (k := 2) (v := ev_nv r7) (ev_isR_nv _) (by decide +kernel) (by exact ev_lk_st1_self) ?_
      refine ev_r_ifnonnull (pc := 31) (r := r7) (o := 7) (t := 38) (by decide +kernel) (by decide +kernel) ?_ ?_
      · intro c8
        refine ev_r_aload_n (pc := 38) (k := 2) (v := ev_nv r7) (ev_isR_nv _) (by decide +kernel) (by exact ev_lk_st1_self) ?_
        refine ev_r_iload_n (pc := 39) (k := 1) (v := Int32.ofInt a0) (by decide +kernel) (by exact (ev_lk_st1 (by rfl) (by decide) rfl)) ?_
        refine ev_r_sipush (pc := 40) (k := 1024) (by decide +kernel) (by decide +kernel) ?_
        refine ev_r_irem (pc := 43) (by decide) (by decide +kernel) ?_
        intro x9 hx9
        refine ev_r_dr (r := r7) (fun v => [.int (Int32.ofInt x9), v]) c8 ?_
        refine ev_r_ialdc (pc := 44) (by exact (hr7.resolve_left c8)) hx9 (by decide +kernel) ?_
        intro x10 hx10
        exact ev_r_ireturn (pc := 45) (x := x10) (v := Int32.ofInt x10) (ty := .int) hx10 (by decide +kernel) (by decide +kernel) rfl rfl
      · intro c8
        refine ev_r_iconst (pc := 34) (k := 0) (by decide +kernel) ?_
        refine ev_r_goto (pc := 35) (o := 10) (t := 45) (by decide +kernel) (by decide +kernel) ?_
        exact ev_r_ireturn (pc := 45) (x := 0) (v := Int32.ofInt 0) (ty := .int) (by decide) (by decide +kernel) (by decide +kernel) rfl rfl
/-- MendBench$Buffers.readSign(I)I -/
def jm_16 (Q : Nat) (a0 : Int) (S : ev_St) : Option ((Int) × ev_St) := if a0 < 0 then (if (0 : Nat) = 0 then (some (0, S)) else (none)) else (ev_if (1024 ≠ 0) (ev_b (ev_idiv a0 1024) fun x3 => if 1024 ≤ x3 then (if (0 : Nat) = 0 then (some (0, S)) else (none)) else (ev_if (1024 ≠ 0) (ev_b (ev_idiv a0 1024) fun x6 => ev_if ((0 : Int) ≤ x6 ∧ x6 < (1024 : Int)) (ev_b (S.2.2.1 260 (Int.toNat x6)) fun r7 => if (r7 : Nat) = 0 then (some (0, S)) else (ev_if (1024 ≠ 0) (ev_b (ev_irem a0 1024) fun x9 => ev_if ((0 : Int) ≤ x9 ∧ x9 < (1024 : Int)) (ev_b (S.1 ((r7 - 1)) (Int.toNat x9)) fun x10 => some (x10, S)))))))))
theorem jt_16 (d : Nat) (hd : 1 ≤ d) (Q : Nat) (a0 : Int) (ha0 : ev_rng a0) (S : ev_St) (x : Int) (S' : ev_St) (hJ : jm_16 Q a0 S = some (x, S')) : ev_Ref d 16 [.ref 254, .int (Int32.ofInt a0)] S (ev_eI x) S' (ev_rng x) := by
  obtain ⟨d, rfl⟩ : ∃ e, d = e + 1 := ⟨d - 1, by omega⟩
  refine ev_ref_of (P := ev_rng) (lv := [(0, .ref 254), (1, .int (Int32.ofInt a0))]) (by decide +kernel) (by (try simp only [ev_sum, ev_nv_cat]); first | done | rfl) (by (try simp only [lv_args, ev_nv_cat]); first | done | rfl) ?_ x S' hJ
  unfold jm_16
  refine ev_r_iload_n (pc := 0) (k := 1) (v := Int32.ofInt a0) (by decide +kernel) (by rfl) ?_
  refine ev_r_if (pc := 1) (q := .lt) (o := 27) (t := 28) (c := a0 < 0) (by decide +kernel) (ev_k_lt ha0 ev_rng0) (by decide +kernel) ?_ ?_
  · intro c1
    refine ev_r_null (pc := 28) (by decide +kernel) ?_
    refine ev_r_astore_n (pc := 29) (k := 2) (ev_isR_nv _) (by decide +kernel) (by decide +kernel) rfl ?_
    refine ev_r_aload_n (pc := 30) (k := 2) (v := ev_nv 0) (ev_isR_nv _) (by decide +kernel) (by exact ev_lk_st1_self) ?_
    refine ev_r_ifnonnull (pc := 31) (r := 0) (o := 7) (t := 38) (by decide +kernel) (by decide +kernel) ?_ ?_
    · intro c2
      exact absurd rfl c2
    · intro c2
      refine ev_r_iconst (pc := 34) (k := 0) (by decide +kernel) ?_
      refine ev_r_goto (pc := 35) (o := 10) (t := 45) (by decide +kernel) (by decide +kernel) ?_
      exact ev_r_ireturn (pc := 45) (x := 0) (v := Int32.ofInt 0) (ty := .int) (by decide) (by decide +kernel) (by decide +kernel) rfl rfl
  · intro c1
    refine ev_r_iload_n (pc := 4) (k := 1) (v := Int32.ofInt a0) (by decide +kernel) (by rfl) ?_
    refine ev_r_sipush (pc := 5) (k := 1024) (by decide +kernel) (by decide +kernel) ?_
    refine ev_r_idiv (pc := 8) (by decide) (by decide +kernel) ?_
    intro x3 hx3
    refine ev_r_sipush (pc := 9) (k := 1024) (by decide +kernel) (by decide +kernel) ?_
    refine ev_r_icmp (pc := 12) (q := .ge) (o := 16) (t := 28) (c := 1024 ≤ x3) (by decide +kernel) (ev_k_ge hx3 (by decide)) (by decide +kernel) ?_ ?_
    · intro c4
      refine ev_r_null (pc := 28) (by decide +kernel) ?_
      refine ev_r_astore_n (pc := 29) (k := 2) (ev_isR_nv _) (by decide +kernel) (by decide +kernel) rfl ?_
      refine ev_r_aload_n (pc := 30) (k := 2) (v := ev_nv 0) (ev_isR_nv _) (by decide +kernel) (by exact ev_lk_st1_self) ?_
      refine ev_r_ifnonnull (pc := 31) (r := 0) (o := 7) (t := 38) (by decide +kernel) (by decide +kernel) ?_ ?_
      · intro c5
        exact absurd rfl c5
      · intro c5
        refine ev_r_iconst (pc := 34) (k := 0) (by decide +kernel) ?_
        refine ev_r_goto (pc := 35) (o := 10) (t := 45) (by decide +kernel) (by decide +kernel) ?_
        exact ev_r_ireturn (pc := 45) (x := 0) (v := Int32.ofInt 0) (ty := .int) (by decide) (by decide +kernel) (by decide +kernel) rfl rfl
    · intro c4
      refine ev_r_aload_n (pc := 15) (k := 0) (v := .ref 254) trivial (by decide +kernel) (by rfl) ?_
      refine ev_r_getC (pc := 16) (y := 35) (ci := 0) (f := 6) (fin := 1) (k' := 260) (by decide +kernel) (by decide +kernel) (by exact ev_ob_254) rfl rfl ?_
      refine ev_r_iload_n (pc := 19) (k := 1) (v := Int32.ofInt a0) (by decide +kernel) (by rfl) ?_
      refine ev_r_sipush (pc := 20) (k := 1024) (by decide +kernel) (by decide +kernel) ?_
      refine ev_r_idiv (pc := 23) (by decide) (by decide +kernel) ?_
      intro x6 hx6
      refine ev_r_aldc (pc := 24) (N := 1024) (t := 103) (C := .byte) (by decide +kernel) rfl hx6 (by decide +kernel) ?_
      intro r7 hr7
      refine ev_r_goto (pc := 25) (o := 4) (t := 29) (by decide +kernel) (by decide +kernel) ?_
      refine ev_r_astore_n (pc := 29) (k := 2) (ev_isR_nv _) (by decide +kernel) (by decide +kernel) rfl ?_
      refine ev_r_aload_n (pc := 30) (k := 2) (v := ev_nv r7) (ev_isR_nv _) (by decide +kernel) (by exact ev_lk_st1_self) ?_
      refine ev_r_ifnonnull (pc := 31) (r := r7) (o := 7) (t := 38) (by decide +kernel) (by decide +kernel) ?_ ?_
      · intro c8
        refine ev_r_aload_n (pc := 38) (k := 2) (v := ev_nv r7) (ev_isR_nv _) (by decide +kernel) (by exact ev_lk_st1_self) ?_
        refine ev_r_iload_n (pc := 39) (k := 1) (v := Int32.ofInt a0) (by decide +kernel) (by exact (ev_lk_st1 (by rfl) (by decide) rfl)) ?_
        refine ev_r_sipush (pc := 40) (k := 1024) (by decide +kernel) (by decide +kernel) ?_
        refine ev_r_irem (pc := 43) (by decide) (by decide +kernel) ?_
        intro x9 hx9
        refine ev_r_dr (r := r7) (fun v => [.int (Int32.ofInt x9), v]) c8 ?_
        refine ev_r_baldc (pc := 44) (by exact (hr7.resolve_left c8)) hx9 (by decide +kernel) ?_
        intro x10 hx10
        exact ev_r_ireturn (pc := 45) (x := x10) (v := Int32.ofInt x10) (ty := .int) hx10 (by decide +kernel) (by decide +kernel) rfl rfl
      · intro c8
        refine ev_r_iconst (pc := 34) (k := 0) (by decide +kernel) ?_
        refine ev_r_goto (pc := 35) (o := 10) (t := 45) (by decide +kernel) (by decide +kernel) ?_
        exact ev_r_ireturn (pc := 45) (x := 0) (v := Int32.ofInt 0) (ty := .int) (by decide) (by decide +kernel) (by decide +kernel) rfl rfl
/-- MendBench$Text.splice(II[III)V -/
def jm_154 (Q : Nat) (k : Nat) (a0 : Int) (a1 : Int) (a2 : Nat) (a3 : Int) (a4 : Int) (S : ev_St) : Option ((Unit) × ev_St) := ev_ck (a0 + a1) fun x1 => ev_jn (fun (x2 : Int) (x3 : Int) (s12 : ev_St) => if x3 = 0 then (some ((), s12)) else (if a4 < 0 then (some ((), s12)) else (if a3 < 0 then (some ((), s12)) else (ev_ck (a3 + a4) fun x16 => ev_if (a2 ≠ 0) (ev_b (ev_aln ((a2 - 1)) : Int) fun x18 => if x16 ≤ x18 then (ev_ck (a0 + a4) fun x20 => ev_b (s12.1 k 1) fun x21 => ev_ck (x21 - x2) fun x22 => ev_if ((0 : Int) ≤ x2 ∧ (0 : Int) ≤ x20 ∧ (0 : Int) ≤ x22 ∧ x2 + x22 ≤ (ev_aln ((k + 1)) : Int) ∧ x20 + x22 ≤ (ev_aln ((k + 1)) : Int)) (ev_b (ev_cpI s12 ((k + 1)) ((k + 1)) (Int.toNat x2) (Int.toNat x20) (Int.toNat x22)) fun s23 => ev_if (a2 ≠ 0) (ev_if ((0 : Int) ≤ a3 ∧ (0 : Int) ≤ a0 ∧ (0 : Int) ≤ a4 ∧ a3 + a4 ≤ (ev_aln ((a2 - 1)) : Int) ∧ a0 + a4 ≤ (ev_aln ((k + 1)) : Int)) (ev_b (ev_cpI s23 ((a2 - 1)) ((k + 1)) (Int.toNat a3) (Int.toNat a0) (Int.toNat a4)) fun s24 => ev_b (s24.1 k 1) fun x26 => ev_ck (a4 - a1) fun x27 => ev_ck (x26 + x27) fun x28 => ev_b (ev_pI s24 k 1 x28) fun s29 => some ((), s29))))) else (some ((), s12))))))) fun K42 => ev_jn (fun (x30 : Int) (s39 : ev_St) => K42 x30 0 s39) fun K41 => if a0 < 0 then (K41 x1 S) else (if a1 < 0 then (K41 x1 S) else (ev_b (S.1 k 1) fun x42 => if x42 < x1 then (K41 x1 S) else (ev_b (S.1 k 1) fun x44 => ev_ck (x44 - a1) fun x45 => ev_ck (x45 + a4) fun x46 => if 160 < x46 then (K41 x1 S) else (K42 x1 1 S))))
theorem jt_154 (d : Nat) (hd : 1 ≤ d) (Q : Nat) (k : Nat) (a0 : Int) (a1 : Int) (a2 : Nat) (a3 : Int) (a4 : Int) (hk : ev_isOb k 10 = true) (ha0 : ev_rng a0) (ha1 : ev_rng a1) (ha2 : a2 = 0 ∨ ev_isAb (a2 - 1) 1 .int = true) (ha3 : ev_rng a3) (ha4 : ev_rng a4) (S : ev_St) (x : Unit) (S' : ev_St) (hJ : jm_154 Q k a0 a1 a2 a3 a4 S = some (x, S')) : ev_Ref d 154 [.ref k, .int (Int32.ofInt a0), .int (Int32.ofInt a1), ev_nv a2, .int (Int32.ofInt a3), .int (Int32.ofInt a4)] S (ev_eU x) S' (ev_PU x) := by
  obtain ⟨d, rfl⟩ : ∃ e, d = e + 1 := ⟨d - 1, by omega⟩
  refine ev_ref_of (P := ev_PU) (lv := [(0, .ref k), (1, .int (Int32.ofInt a0)), (2, .int (Int32.ofInt a1)), (3, ev_nv a2), (4, .int (Int32.ofInt a3)), (5, .int (Int32.ofInt a4))]) (by decide +kernel) (by (try simp only [ev_sum, ev_nv_cat]); first | done | rfl) (by (try simp only [lv_args, ev_nv_cat]); first | done | rfl) ?_ x S' hJ
  unfold jm_154
  refine ev_r_iload_n (pc := 0) (k := 1) (v := Int32.ofInt a0) (by decide +kernel) (by rfl) ?_
  refine ev_r_iload_n (pc := 1) (k := 2) (v := Int32.ofInt a1) (by decide +kernel) (by rfl) ?_
  refine ev_r_iadd (pc := 2) (by decide +kernel) ?_
  intro x1 hx1
  refine ev_r_istore (pc := 3) (k := 6) (by decide +kernel) (by decide +kernel) rfl ?_
  refine ev_r_iload_n (pc := 5) (k := 1) (v := Int32.ofInt a0) (by decide +kernel) (by exact (ev_l1 (by rfl) (by decide) (by decide))) ?_
  refine ev_r_jn (Q := fun K => ∀ (x2 : Int) (hx2 : ev_rng x2), ∀ (x3 : Int) (hx3 : ev_rng x3), ∀ (s12 : ev_St) (w4 : List (Nat × Value)), ev_lk w4 0 = some (.ref k) → ev_lk w4 1 = some (.int (Int32.ofInt a0)) → ev_lk w4 2 = some (.int (Int32.ofInt a1)) → ev_lk w4 3 = some (ev_nv a2) → ev_lk w4 4 = some (.int (Int32.ofInt a3)) → ev_lk w4 5 = some (.int (Int32.ofInt a4)) → ev_lk w4 6 = some (.int (Int32.ofInt x2)) → ev_w none (ev_Mof 154) d 42 w4 [.int (Int32.ofInt x3)] s12 (K x2 x3 s12) ev_eU ev_PU) ?_ ?_
  · intro x2 hx2 x3 hx3 s12 w4 e5 e6 e7 e8 e9 e10 e11
    refine ev_r_istore (pc := 42) (k := 7) (by decide +kernel) (by decide +kernel) rfl ?_
    refine ev_r_iload (pc := 44) (k := 7) (v := Int32.ofInt x3) (by decide +kernel) (by exact ev_lk_st1_self) ?_
    refine ev_r_if (pc := 46) (q := .eq) (o := 23) (t := 69) (c := x3 = 0) (by decide +kernel) (ev_k_eq hx3 ev_rng0) (by decide +kernel) ?_ ?_
    · intro c13
      exact ev_r_return (pc := 69) (x := ()) trivial (by decide +kernel) (by decide +kernel) rfl
    · intro c13
      refine ev_r_iload (pc := 49) (k := 5) (v := Int32.ofInt a4) (by decide +kernel) (by exact (ev_l1 e10 (by decide) (by decide))) ?_
      refine ev_r_if (pc := 51) (q := .lt) (o := 18) (t := 69) (c := a4 < 0) (by decide +kernel) (ev_k_lt ha4 ev_rng0) (by decide +kernel) ?_ ?_
      · intro c14
        exact ev_r_return (pc := 69) (x := ()) trivial (by decide +kernel) (by decide +kernel) rfl
      · intro c14
        refine ev_r_iload (pc := 54) (k := 4) (v := Int32.ofInt a3) (by decide +kernel) (by exact (ev_l1 e9 (by decide) (by decide))) ?_
        refine ev_r_if (pc := 56) (q := .lt) (o := 13) (t := 69) (c := a3 < 0) (by decide +kernel) (ev_k_lt ha3 ev_rng0) (by decide +kernel) ?_ ?_
        · intro c15
          exact ev_r_return (pc := 69) (x := ()) trivial (by decide +kernel) (by decide +kernel) rfl
        · intro c15
          refine ev_r_iload (pc := 59) (k := 4) (v := Int32.ofInt a3) (by decide +kernel) (by exact (ev_l1 e9 (by decide) (by decide))) ?_
          refine ev_r_iload (pc := 61) (k := 5) (v := Int32.ofInt a4) (by decide +kernel) (by exact (ev_l1 e10 (by decide) (by decide))) ?_
          refine ev_r_iadd (pc := 63) (by decide +kernel) ?_
          intro x16 hx16
          refine ev_r_aload_n (pc := 64) (k := 3) (v := ev_nv a2) (ev_isR_nv _) (by decide +kernel) (by exact (ev_l1 e8 (by decide) (by decide))) ?_
          refine ev_r_chk ?_
          intro c17
          refine ev_r_dr (r := a2) (fun v => [v, .int (Int32.ofInt x16)]) c17 ?_
          refine ev_r_alen (pc := 65) (kd := 1) (ty := .int) (Or.inl rfl) (by decide +kernel) (by exact (ha2.resolve_left c17)) ?_
          intro x18 hx18
          refine ev_r_icmp (pc := 66) (q := .le) (o := 4) (t := 70) (c := x16 ≤ x18) (by decide +kernel) (ev_k_le hx16 hx18) (by decide +kernel) ?_ ?_
          · intro c19
            refine ev_r_aload_n (pc := 70) (k := 0) (v := .ref k) trivial (by decide +kernel) (by exact (ev_l1 e5 (by decide) (by decide))) ?_
            refine ev_r_getC (pc := 71) (y := 11) (ci := 10) (f := 0) (fin := 1) (k' := (k + 1)) (by decide +kernel) (by decide +kernel) (by exact hk) rfl rfl ?_
            refine ev_r_iload (pc := 74) (k := 6) (v := Int32.ofInt x2) (by decide +kernel) (by exact (ev_lk_st1 e11 (by decide) rfl)) ?_
            refine ev_r_aload_n (pc := 76) (k := 0) (v := .ref k) trivial (by decide +kernel) (by exact (ev_l1 e5 (by decide) (by decide))) ?_
            refine ev_r_getC (pc := 77) (y := 11) (ci := 10) (f := 0) (fin := 1) (k' := (k + 1)) (by decide +kernel) (by decide +kernel) (by exact hk) rfl rfl ?_
            refine ev_r_iload_n (pc := 80) (k := 1) (v := Int32.ofInt a0) (by decide +kernel) (by exact (ev_l1 e6 (by decide) (by decide))) ?_
            refine ev_r_iload (pc := 81) (k := 5) (v := Int32.ofInt a4) (by decide +kernel) (by exact (ev_l1 e10 (by decide) (by decide))) ?_
            refine ev_r_iadd (pc := 83) (by decide +kernel) ?_
            intro x20 hx20
            refine ev_r_aload_n (pc := 84) (k := 0) (v := .ref k) trivial (by decide +kernel) (by exact (ev_l1 e5 (by decide) (by decide))) ?_
            refine ev_r_getI (pc := 85) (y := 15) (ci := 10) (f := 1) (fin := 0) (by decide +kernel) (by decide +kernel) (by exact hk) rfl ?_
            intro x21 hx21
            refine ev_r_iload (pc := 88) (k := 6) (v := Int32.ofInt x2) (by decide +kernel) (by exact (ev_lk_st1 e11 (by decide) rfl)) ?_
            refine ev_r_isub (pc := 90) (by decide +kernel) ?_
            intro x22 hx22
            refine ev_r_copyI (pc := 91) (y := 19) ⟨hx2, hx20, hx22⟩ (by decide +kernel) (by decide +kernel) (by (try simp only [ev_sum, ev_nv_cat]); first | done | rfl) (by exact (ev_fo_10_0 hk)) (by exact (ev_fo_10_0 hk)) ?_
            intro s23
            refine ev_r_aload_n (pc := 94) (k := 3) (v := ev_nv a2) (ev_isR_nv _) (by decide +kernel) (by exact (ev_l1 e8 (by decide) (by decide))) ?_
            refine ev_r_iload (pc := 95) (k := 4) (v := Int32.ofInt a3) (by decide +kernel) (by exact (ev_l1 e9 (by decide) (by decide))) ?_
            refine ev_r_aload_n (pc := 97) (k := 0) (v := .ref k) trivial (by decide +kernel) (by exact (ev_l1 e5 (by decide) (by decide))) ?_
            refine ev_r_getC (pc := 98) (y := 11) (ci := 10) (f := 0) (fin := 1) (k' := (k + 1)) (by decide +kernel) (by decide +kernel) (by exact hk) rfl rfl ?_
            refine ev_r_iload_n (pc := 101) (k := 1) (v := Int32.ofInt a0) (by decide +kernel) (by exact (ev_l1 e6 (by decide) (by decide))) ?_
            refine ev_r_iload (pc := 102) (k := 5) (v := Int32.ofInt a4) (by decide +kernel) (by exact (ev_l1 e10 (by decide) (by decide))) ?_
            refine ev_r_chk ?_
            intro c25
            refine ev_r_dr (r := a2) (fun v => [.int (Int32.ofInt a4), .int (Int32.ofInt a0), .ref ((k + 1)), .int (Int32.ofInt a3), v]) c25 ?_
            refine ev_r_copyI (pc := 104) (y := 19) ⟨ha3, ha0, ha4⟩ (by decide +kernel) (by decide +kernel) (by (try simp only [ev_sum, ev_nv_cat]); first | done | rfl) (by exact (ha2.resolve_left c25)) (by exact (ev_fo_10_0 hk)) ?_
            intro s24
            refine ev_r_aload_n (pc := 107) (k := 0) (v := .ref k) trivial (by decide +kernel) (by exact (ev_l1 e5 (by decide) (by decide))) ?_
            refine ev_r_dup (pc := 108) rfl (by decide +kernel) ?_
            refine ev_r_getI (pc := 109) (y := 15) (ci := 10) (f := 1) (fin := 0) (by decide +kernel) (by decide +kernel) (by exact hk) rfl ?_
            intro x26 hx26
            refine ev_r_iload (pc := 112) (k := 5) (v := Int32.ofInt a4) (by decide +kernel) (by exact (ev_l1 e10 (by decide) (by decide))) ?_
            refine ev_r_iload_n (pc := 114) (k := 2) (v := Int32.ofInt a1) (by decide +kernel) (by exact (ev_l1 e7 (by decide) (by decide))) ?_
            refine ev_r_isub (pc := 115) (by decide +kernel) ?_
            intro x27 hx27
            refine ev_r_iadd (pc := 116) (by decide +kernel) ?_
            intro x28 hx28
            refine ev_r_putI (pc := 117) (y := 15) (ci := 10) (f := 1) hx28 (by decide +kernel) (by decide +kernel) (by exact hk) rfl rfl ?_
            intro s29
            exact ev_r_return (pc := 120) (x := ()) trivial (by decide +kernel) (by decide +kernel) rfl
          · intro c19
            exact ev_r_return (pc := 69) (x := ()) trivial (by decide +kernel) (by decide +kernel) rfl
  · intro K42 hK42
    refine ev_r_jn (Q := fun K => ∀ (x30 : Int) (hx30 : ev_rng x30), ∀ (s39 : ev_St) (w31 : List (Nat × Value)), ev_lk w31 0 = some (.ref k) → ev_lk w31 1 = some (.int (Int32.ofInt a0)) → ev_lk w31 2 = some (.int (Int32.ofInt a1)) → ev_lk w31 3 = some (ev_nv a2) → ev_lk w31 4 = some (.int (Int32.ofInt a3)) → ev_lk w31 5 = some (.int (Int32.ofInt a4)) → ev_lk w31 6 = some (.int (Int32.ofInt x30)) → ev_w none (ev_Mof 154) d 41 w31 [] s39 (K x30 s39) ev_eU ev_PU) ?_ ?_
    · intro x30 hx30 s39 w31 e32 e33 e34 e35 e36 e37 e38
      refine ev_r_iconst (pc := 41) (k := 0) (by decide +kernel) ?_
      exact hK42 x30 hx30 0 (by decide) s39 _ (by exact e32) (by exact e33) (by exact e34) (by exact e35) (by exact e36) (by exact e37) (by exact e38)
    · intro K41 hK41
      refine ev_r_if (pc := 6) (q := .lt) (o := 35) (t := 41) (c := a0 < 0) (by decide +kernel) (ev_k_lt ha0 ev_rng0) (by decide +kernel) ?_ ?_
      · intro c40
        exact hK41 x1 hx1 S _ (by exact (ev_l1 (by rfl) (by decide) (by decide))) (by exact (ev_l1 (by rfl) (by decide) (by decide))) (by exact (ev_l1 (by rfl) (by decide) (by decide))) (by exact (ev_l1 (by rfl) (by decide) (by decide))) (by exact (ev_l1 (by rfl) (by decide) (by decide))) (by exact (ev_lk_st1 (by rfl) (by decide) rfl)) (by exact ev_lk_st1_self)
      · intro c40
        refine ev_r_iload_n (pc := 9) (k := 2) (v := Int32.ofInt a1) (by decide +kernel) (by exact (ev_l1 (by rfl) (by decide) (by decide))) ?_
        refine ev_r_if (pc := 10) (q := .lt) (o := 31) (t := 41) (c := a1 < 0) (by decide +kernel) (ev_k_lt ha1 ev_rng0) (by decide +kernel) ?_ ?_
        · intro c41
          exact hK41 x1 hx1 S _ (by exact (ev_l1 (by rfl) (by decide) (by decide))) (by exact (ev_l1 (by rfl) (by decide) (by decide))) (by exact (ev_l1 (by rfl) (by decide) (by decide))) (by exact (ev_l1 (by rfl) (by decide) (by decide))) (by exact (ev_l1 (by rfl) (by decide) (by decide))) (by exact (ev_lk_st1 (by rfl) (by decide) rfl)) (by exact ev_lk_st1_self)
        · intro c41
          refine ev_r_iload (pc := 13) (k := 6) (v := Int32.ofInt x1) (by decide +kernel) (by exact ev_lk_st1_self) ?_
          refine ev_r_aload_n (pc := 15) (k := 0) (v := .ref k) trivial (by decide +kernel) (by exact (ev_l1 (by rfl) (by decide) (by decide))) ?_
          refine ev_r_getI (pc := 16) (y := 15) (ci := 10) (f := 1) (fin := 0) (by decide +kernel) (by decide +kernel) (by exact hk) rfl ?_
          intro x42 hx42
          refine ev_r_icmp (pc := 19) (q := .gt) (o := 22) (t := 41) (c := x42 < x1) (by decide +kernel) (ev_k_gt hx1 hx42) (by decide +kernel) ?_ ?_
          · intro c43
            exact hK41 x1 hx1 S _ (by exact (ev_l1 (by rfl) (by decide) (by decide))) (by exact (ev_l1 (by rfl) (by decide) (by decide))) (by exact (ev_l1 (by rfl) (by decide) (by decide))) (by exact (ev_l1 (by rfl) (by decide) (by decide))) (by exact (ev_l1 (by rfl) (by decide) (by decide))) (by exact (ev_lk_st1 (by rfl) (by decide) rfl)) (by exact ev_lk_st1_self)
          · intro c43
            refine ev_r_aload_n (pc := 22) (k := 0) (v := .ref k) trivial (by decide +kernel) (by exact (ev_l1 (by rfl) (by decide) (by decide))) ?_
            refine ev_r_getI (pc := 23) (y := 15) (ci := 10) (f := 1) (fin := 0) (by decide +kernel) (by decide +kernel) (by exact hk) rfl ?_
            intro x44 hx44
            refine ev_r_iload_n (pc := 26) (k := 2) (v := Int32.ofInt a1) (by decide +kernel) (by exact (ev_l1 (by rfl) (by decide) (by decide))) ?_
            refine ev_r_isub (pc := 27) (by decide +kernel) ?_
            intro x45 hx45
            refine ev_r_iload (pc := 28) (k := 5) (v := Int32.ofInt a4) (by decide +kernel) (by exact (ev_lk_st1 (by rfl) (by decide) rfl)) ?_
            refine ev_r_iadd (pc := 30) (by decide +kernel) ?_
            intro x46 hx46
            refine ev_r_sipush (pc := 31) (k := 160) (by decide +kernel) (by decide +kernel) ?_
            refine ev_r_icmp (pc := 34) (q := .gt) (o := 7) (t := 41) (c := 160 < x46) (by decide +kernel) (ev_k_gt hx46 (by decide)) (by decide +kernel) ?_ ?_
            · intro c47
              exact hK41 x1 hx1 S _ (by exact (ev_l1 (by rfl) (by decide) (by decide))) (by exact (ev_l1 (by rfl) (by decide) (by decide))) (by exact (ev_l1 (by rfl) (by decide) (by decide))) (by exact (ev_l1 (by rfl) (by decide) (by decide))) (by exact (ev_l1 (by rfl) (by decide) (by decide))) (by exact (ev_lk_st1 (by rfl) (by decide) rfl)) (by exact ev_lk_st1_self)
            · intro c47
              refine ev_r_iconst (pc := 37) (k := 1) (by decide +kernel) ?_
              refine ev_r_goto (pc := 38) (o := 4) (t := 42) (by decide +kernel) (by decide +kernel) ?_
              exact hK42 x1 hx1 1 (by decide) S _ (by exact (ev_l1 (by rfl) (by decide) (by decide))) (by exact (ev_l1 (by rfl) (by decide) (by decide))) (by exact (ev_l1 (by rfl) (by decide) (by decide))) (by exact (ev_l1 (by rfl) (by decide) (by decide))) (by exact (ev_l1 (by rfl) (by decide) (by decide))) (by exact (ev_lk_st1 (by rfl) (by decide) rfl)) (by exact ev_lk_st1_self)
def jb_10_3 (Q : Nat) (a0 : Int) (a1 : Int) (a2 : Int) (a3 : Int)  (K3 : Int → ev_St → Option ((Unit) × ev_St)) (x1 : Int) (s9 : ev_St) : Option ((Unit) × ev_St) := ev_b (s9.1 254 4) fun x10 => if x10 ≤ x1 then (some ((), s9)) else (if 12 ≤ x1 then (some ((), s9)) else (ev_if ((0 : Int) ≤ x1 ∧ x1 < (ev_aln 258 : Int)) (ev_b (s9.1 258 (Int.toNat x1)) fun x13 => ev_jn (fun (x14 : Int) (x15 : Int) (s24 : ev_St) => ev_if ((0 : Int) ≤ x1 ∧ x1 < (ev_aln 256 : Int)) (ev_b (s24.1 256 (Int.toNat x1)) fun x25 => ev_jn (fun  (s33 : ev_St) => ev_ck (x1 + 1) fun x34 => K3 x34 s33) fun K126 => if x25 ≠ a0 then (K126  s24) else (if x15 = 0 then (if x14 < a2 then (ev_if ((0 : Int) ≤ x1 ∧ x1 < (ev_aln 257 : Int)) (ev_b (s24.1 257 (Int.toNat x1)) fun x38 => ev_jn (fun (x41 : Int) (x40 : Int) (r39 : Nat) (s49 : ev_St) => ev_if ((0 : Int) ≤ x40 ∧ x40 < (ev_aln r39 : Int)) (ev_b (ev_pI s49 r39 (Int.toNat x40) x41) fun s50 => K126  s50)) fun K125 => if x38 = 0 then (K125 a1 x1 258 s24) else (ev_ck (a1 + a3) fun x52 => K125 x52 x1 258 s24))) else (ev_ck (x14 + a3) fun x53 => ev_ck (a2 - a1) fun x54 => ev_ck (x53 - x54) fun x55 => ev_if ((0 : Int) ≤ x1 ∧ x1 < (ev_aln 258 : Int)) (ev_b (ev_pI s24 258 (Int.toNat x1) x55) fun s56 => K126  s56))) else (K126  s24)))) fun K55 => ev_jn (fun (x57 : Int) (s66 : ev_St) => K55 x57 1 s66) fun K50 => if x13 < a1 then (K50 x13 s9) else (ev_jn (fun  (s76 : ev_St) => K55 x13 0 s76) fun K54 => if x13 ≠ a1 then (K54  s9) else (ev_if ((0 : Int) ≤ x1 ∧ x1 < (ev_aln 257 : Int)) (ev_b (s9.1 257 (Int.toNat x1)) fun x78 => if x78 ≠ 0 then (K54  s9) else (K50 x13 s9)))))))
def jl_10_3 (Q : Nat) (a0 : Int) (a1 : Int) (a2 : Int) (a3 : Int)  : Nat → Int → ev_St → Option ((Unit) × ev_St)
  | 0 => fun _ _ => none
  | q + 1 => jb_10_3 Q a0 a1 a2 a3  (jl_10_3 Q a0 a1 a2 a3  q)
theorem jbt_10_3 (d : Nat) (hd : 1 ≤ d + 1) (Q : Nat) (a0 : Int) (a1 : Int) (a2 : Int) (a3 : Int) (ha0 : ev_rng a0) (ha1 : ev_rng a1) (ha2 : ev_rng a2) (ha3 : ev_rng a3)   (K3 : Int → ev_St → Option ((Unit) × ev_St)) (hK3 : ∀ (x1 : Int) (hx1 : ev_rng x1), ∀ (s9 : ev_St) (w2 : List (Nat × Value)), ev_lk w2 0 = some (.ref 254) → ev_lk w2 1 = some (.int (Int32.ofInt a0)) → ev_lk w2 2 = some (.int (Int32.ofInt a1)) → ev_lk w2 3 = some (.int (Int32.ofInt a2)) → ev_lk w2 4 = some (.int (Int32.ofInt a3)) → ev_lk w2 5 = some (.int (Int32.ofInt x1)) → ev_w none (ev_Mof 10) d 3 w2 [] s9 (K3 x1 s9) ev_eU ev_PU) : ∀ (x1 : Int) (hx1 : ev_rng x1), ∀ (s9 : ev_St) (w2 : List (Nat × Value)), ev_lk w2 0 = some (.ref 254) → ev_lk w2 1 = some (.int (Int32.ofInt a0)) → ev_lk w2 2 = some (.int (Int32.ofInt a1)) → ev_lk w2 3 = some (.int (Int32.ofInt a2)) → ev_lk w2 4 = some (.int (Int32.ofInt a3)) → ev_lk w2 5 = some (.int (Int32.ofInt x1)) → ev_w none (ev_Mof 10) d 3 w2 [] s9 (jb_10_3 Q a0 a1 a2 a3  K3 x1 s9) ev_eU ev_PU := by
  intro x1 hx1 s9 w2 e3 e4 e5 e6 e7 e8
  unfold jb_10_3
  refine ev_r_iload (pc := 3) (k := 5) (v := Int32.ofInt x1) (by decide +kernel) (by exact e8) ?_
  refine ev_r_aload_n (pc := 5) (k := 0) (v := .ref 254) trivial (by decide +kernel) (by exact e3) ?_
  refine ev_r_getI (pc := 6) (y := 46) (ci := 0) (f := 4) (fin := 0) (by decide +kernel) (by decide +kernel) (by exact ev_ob_254) rfl ?_
  intro x10 hx10
  refine ev_r_icmp (pc := 9) (q := .ge) (o := 123) (t := 132) (c := x10 ≤ x1) (by decide +kernel) (ev_k_ge hx1 hx10) (by decide +kernel) ?_ ?_
  · intro c11
    exact ev_r_return (pc := 132) (x := ()) trivial (by decide +kernel) (by decide +kernel) rfl
  · intro c11
    refine ev_r_iload (pc := 12) (k := 5) (v := Int32.ofInt x1) (by decide +kernel) (by exact e8) ?_
    refine ev_r_bipush (pc := 14) (k := 12) (by decide +kernel) (by decide +kernel) ?_
    refine ev_r_icmp (pc := 16) (q := .ge) (o := 116) (t := 132) (c := 12 ≤ x1) (by decide +kernel) (ev_k_ge hx1 (by decide)) (by decide +kernel) ?_ ?_
    · intro c12
      exact ev_r_return (pc := 132) (x := ()) trivial (by decide +kernel) (by decide +kernel) rfl
    · intro c12
      refine ev_r_aload_n (pc := 19) (k := 0) (v := .ref 254) trivial (by decide +kernel) (by exact e3) ?_
      refine ev_r_getC (pc := 20) (y := 25) (ci := 0) (f := 3) (fin := 1) (k' := 258) (by decide +kernel) (by decide +kernel) (by exact ev_ob_254) rfl rfl ?_
      refine ev_r_iload (pc := 23) (k := 5) (v := Int32.ofInt x1) (by decide +kernel) (by exact e8) ?_
      refine ev_r_iald (pc := 25) hx1 (by decide +kernel) (by exact ev_ab_258) ?_
      intro x13 hx13
      refine ev_r_istore (pc := 26) (k := 6) (by decide +kernel) (by decide +kernel) rfl ?_
      refine ev_r_iload (pc := 28) (k := 6) (v := Int32.ofInt x13) (by decide +kernel) (by exact ev_lk_st1_self) ?_
      refine ev_r_iload_n (pc := 30) (k := 2) (v := Int32.ofInt a1) (by decide +kernel) (by exact (ev_l1 e5 (by decide) (by decide))) ?_
      refine ev_r_jn (Q := fun K => ∀ (x14 : Int) (hx14 : ev_rng x14), ∀ (x15 : Int) (hx15 : ev_rng x15), ∀ (s24 : ev_St) (w16 : List (Nat × Value)), ev_lk w16 0 = some (.ref 254) → ev_lk w16 1 = some (.int (Int32.ofInt a0)) → ev_lk w16 2 = some (.int (Int32.ofInt a1)) → ev_lk w16 3 = some (.int (Int32.ofInt a2)) → ev_lk w16 4 = some (.int (Int32.ofInt a3)) → ev_lk w16 5 = some (.int (Int32.ofInt x1)) → ev_lk w16 6 = some (.int (Int32.ofInt x14)) → ev_w none (ev_Mof 10) d 55 w16 [.int (Int32.ofInt x15)] s24 (K x14 x15 s24) ev_eU ev_PU) ?_ ?_
      · intro x14 hx14 x15 hx15 s24 w16 e17 e18 e19 e20 e21 e22 e23
        refine ev_r_istore (pc := 55) (k := 7) (by decide +kernel) (by decide +kernel) rfl ?_
        refine ev_r_aload_n (pc := 57) (k := 0) (v := .ref 254) trivial (by decide +kernel) (by exact (ev_l1 e17 (by decide) (by decide))) ?_
        refine ev_r_getC (pc := 58) (y := 17) (ci := 0) (f := 1) (fin := 1) (k' := 256) (by decide +kernel) (by decide +kernel) (by exact ev_ob_254) rfl rfl ?_
        refine ev_r_iload (pc := 61) (k := 5) (v := Int32.ofInt x1) (by decide +kernel) (by exact (ev_l1 e22 (by decide) (by decide))) ?_
        refine ev_r_iald (pc := 63) hx1 (by decide +kernel) (by exact ev_ab_256) ?_
        intro x25 hx25
        refine ev_r_iload_n (pc := 64) (k := 1) (v := Int32.ofInt a0) (by decide +kernel) (by exact (ev_l1 e18 (by decide) (by decide))) ?_
        refine ev_r_jn (Q := fun K => ∀ (s33 : ev_St) (w26 : List (Nat × Value)), ev_lk w26 0 = some (.ref 254) → ev_lk w26 1 = some (.int (Int32.ofInt a0)) → ev_lk w26 2 = some (.int (Int32.ofInt a1)) → ev_lk w26 3 = some (.int (Int32.ofInt a2)) → ev_lk w26 4 = some (.int (Int32.ofInt a3)) → ev_lk w26 5 = some (.int (Int32.ofInt x1)) → ev_w none (ev_Mof 10) d 126 w26 [] s33 (K  s33) ev_eU ev_PU) ?_ ?_
        · intro  s33 w26 e27 e28 e29 e30 e31 e32
          refine ev_r_iinc (pc := 126) (k := 5) (c := 1) (x := x1) (by decide +kernel) (by decide +kernel) (by exact e32) (fun _ => rfl) ?_
          intro x34 hx34
          refine ev_r_goto (pc := 129) (o := (-126)) (t := 3) (by decide +kernel) (by decide +kernel) ?_
          exact hK3 x34 hx34 s33 _ (by exact (ev_l1 e27 (by decide) (by decide))) (by exact (ev_l1 e28 (by decide) (by decide))) (by exact (ev_l1 e29 (by decide) (by decide))) (by exact (ev_l1 e30 (by decide) (by decide))) (by exact (ev_lk_st1 e31 (by decide) rfl)) (by exact ev_lk_st1_self)
        · intro K126 hK126
          refine ev_r_icmp (pc := 65) (q := .ne) (o := 61) (t := 126) (c := x25 ≠ a0) (by decide +kernel) (ev_k_ne hx25 ha0) (by decide +kernel) ?_ ?_
          · intro c35
            exact hK126  s24 _ (by exact (ev_l1 e17 (by decide) (by decide))) (by exact (ev_l1 e18 (by decide) (by decide))) (by exact (ev_l1 e19 (by decide) (by decide))) (by exact (ev_l1 e20 (by decide) (by decide))) (by exact (ev_l1 e21 (by decide) (by decide))) (by exact (ev_l1 e22 (by decide) (by decide)))
          · intro c35
            refine ev_r_iload (pc := 68) (k := 7) (v := Int32.ofInt x15) (by decide +kernel) (by exact ev_lk_st1_self) ?_
            refine ev_r_if (pc := 70) (q := .eq) (o := 6) (t := 76) (c := x15 = 0) (by decide +kernel) (ev_k_eq hx15 ev_rng0) (by decide +kernel) ?_ ?_
            · intro c36
              refine ev_r_iload (pc := 76) (k := 6) (v := Int32.ofInt x14) (by decide +kernel) (by exact (ev_lk_st1 e23 (by decide) rfl)) ?_
              refine ev_r_iload_n (pc := 78) (k := 3) (v := Int32.ofInt a2) (by decide +kernel) (by exact (ev_l1 e20 (by decide) (by decide))) ?_
              refine ev_r_icmp (pc := 79) (q := .lt) (o := 22) (t := 101) (c := x14 < a2) (by decide +kernel) (ev_k_lt hx14 ha2) (by decide +kernel) ?_ ?_
              · intro c37
                refine ev_r_aload_n (pc := 101) (k := 0) (v := .ref 254) trivial (by decide +kernel) (by exact (ev_l1 e17 (by decide) (by decide))) ?_
                refine ev_r_getC (pc := 102) (y := 25) (ci := 0) (f := 3) (fin := 1) (k' := 258) (by decide +kernel) (by decide +kernel) (by exact ev_ob_254) rfl rfl ?_
                refine ev_r_iload (pc := 105) (k := 5) (v := Int32.ofInt x1) (by decide +kernel) (by exact (ev_l1 e22 (by decide) (by decide))) ?_
                refine ev_r_aload_n (pc := 107) (k := 0) (v := .ref 254) trivial (by decide +kernel) (by exact (ev_l1 e17 (by decide) (by decide))) ?_
                refine ev_r_getC (pc := 108) (y := 21) (ci := 0) (f := 2) (fin := 1) (k' := 257) (by decide +kernel) (by decide +kernel) (by exact ev_ob_254) rfl rfl ?_
                refine ev_r_iload (pc := 111) (k := 5) (v := Int32.ofInt x1) (by decide +kernel) (by exact (ev_l1 e22 (by decide) (by decide))) ?_
                refine ev_r_bald (pc := 113) (ty := .boolean) (Or.inr rfl) hx1 (by decide +kernel) (by exact ev_ab_257) ?_
                intro x38 hx38
                refine ev_r_jn (Q := fun K => ∀ (x41 : Int) (hx41 : ev_rng x41), ∀ (x40 : Int) (hx40 : ev_rng x40), ∀ (r39 : Nat) (hr39 : ev_isAb r39 1 .int = true), ∀ (s49 : ev_St) (w42 : List (Nat × Value)), ev_lk w42 0 = some (.ref 254) → ev_lk w42 1 = some (.int (Int32.ofInt a0)) → ev_lk w42 2 = some (.int (Int32.ofInt a1)) → ev_lk w42 3 = some (.int (Int32.ofInt a2)) → ev_lk w42 4 = some (.int (Int32.ofInt a3)) → ev_lk w42 5 = some (.int (Int32.ofInt x1)) → ev_w none (ev_Mof 10) d 125 w42 [.int (Int32.ofInt x41), .int (Int32.ofInt x40), .ref r39] s49 (K x41 x40 r39 s49) ev_eU ev_PU) ?_ ?_
                · intro x41 hx41 x40 hx40 r39 hr39 s49 w42 e43 e44 e45 e46 e47 e48
                  refine ev_r_iast (pc := 125) hx41 hx40 (by decide +kernel) (by exact hr39) ?_
                  intro s50
                  exact hK126  s50 _ (by exact e43) (by exact e44) (by exact e45) (by exact e46) (by exact e47) (by exact e48)
                · intro K125 hK125
                  refine ev_r_if (pc := 114) (q := .eq) (o := 10) (t := 124) (c := x38 = 0) (by decide +kernel) (ev_k_eq hx38 ev_rng0) (by decide +kernel) ?_ ?_
                  · intro c51
                    refine ev_r_iload_n (pc := 124) (k := 2) (v := Int32.ofInt a1) (by decide +kernel) (by exact (ev_l1 e19 (by decide) (by decide))) ?_
                    exact hK125 a1 ha1 x1 hx1 258 ev_ab_258 s24 _ (by exact (ev_l1 e17 (by decide) (by decide))) (by exact (ev_l1 e18 (by decide) (by decide))) (by exact (ev_l1 e19 (by decide) (by decide))) (by exact (ev_l1 e20 (by decide) (by decide))) (by exact (ev_l1 e21 (by decide) (by decide))) (by exact (ev_l1 e22 (by decide) (by decide)))
                  · intro c51
                    refine ev_r_iload_n (pc := 117) (k := 2) (v := Int32.ofInt a1) (by decide +kernel) (by exact (ev_l1 e19 (by decide) (by decide))) ?_
                    refine ev_r_iload (pc := 118) (k := 4) (v := Int32.ofInt a3) (by decide +kernel) (by exact (ev_l1 e21 (by decide) (by decide))) ?_
                    refine ev_r_iadd (pc := 120) (by decide +kernel) ?_
                    intro x52 hx52
                    refine ev_r_goto (pc := 121) (o := 4) (t := 125) (by decide +kernel) (by decide +kernel) ?_
                    exact hK125 x52 hx52 x1 hx1 258 ev_ab_258 s24 _ (by exact (ev_l1 e17 (by decide) (by decide))) (by exact (ev_l1 e18 (by decide) (by decide))) (by exact (ev_l1 e19 (by decide) (by decide))) (by exact (ev_l1 e20 (by decide) (by decide))) (by exact (ev_l1 e21 (by decide) (by decide))) (by exact (ev_l1 e22 (by decide) (by decide)))
              · intro c37
                refine ev_r_aload_n (pc := 82) (k := 0) (v := .ref 254) trivial (by decide +kernel) (by exact (ev_l1 e17 (by decide) (by decide))) ?_
                refine ev_r_getC (pc := 83) (y := 25) (ci := 0) (f := 3) (fin := 1) (k' := 258) (by decide +kernel) (by decide +kernel) (by exact ev_ob_254) rfl rfl ?_
                refine ev_r_iload (pc := 86) (k := 5) (v := Int32.ofInt x1) (by decide +kernel) (by exact (ev_l1 e22 (by decide) (by decide))) ?_
                refine ev_r_iload (pc := 88) (k := 6) (v := Int32.ofInt x14) (by decide +kernel) (by exact (ev_lk_st1 e23 (by decide) rfl)) ?_
                refine ev_r_iload (pc := 90) (k := 4) (v := Int32.ofInt a3) (by decide +kernel) (by exact (ev_l1 e21 (by decide) (by decide))) ?_
                refine ev_r_iadd (pc := 92) (by decide +kernel) ?_
                intro x53 hx53
                refine ev_r_iload_n (pc := 93) (k := 3) (v := Int32.ofInt a2) (by decide +kernel) (by exact (ev_l1 e20 (by decide) (by decide))) ?_
                refine ev_r_iload_n (pc := 94) (k := 2) (v := Int32.ofInt a1) (by decide +kernel) (by exact (ev_l1 e19 (by decide) (by decide))) ?_
                refine ev_r_isub (pc := 95) (by decide +kernel) ?_
                intro x54 hx54
                refine ev_r_isub (pc := 96) (by decide +kernel) ?_
                intro x55 hx55
                refine ev_r_iast (pc := 97) hx55 hx1 (by decide +kernel) (by exact ev_ab_258) ?_
                intro s56
                refine ev_r_goto (pc := 98) (o := 28) (t := 126) (by decide +kernel) (by decide +kernel) ?_
                exact hK126  s56 _ (by exact (ev_l1 e17 (by decide) (by decide))) (by exact (ev_l1 e18 (by decide) (by decide))) (by exact (ev_l1 e19 (by decide) (by decide))) (by exact (ev_l1 e20 (by decide) (by decide))) (by exact (ev_l1 e21 (by decide) (by decide))) (by exact (ev_l1 e22 (by decide) (by decide)))
            · intro c36
              refine ev_r_goto (pc := 73) (o := 53) (t := 126) (by decide +kernel) (by decide +kernel) ?_
              exact hK126  s24 _ (by exact (ev_l1 e17 (by decide) (by decide))) (by exact (ev_l1 e18 (by decide) (by decide))) (by exact (ev_l1 e19 (by decide) (by decide))) (by exact (ev_l1 e20 (by decide) (by decide))) (by exact (ev_l1 e21 (by decide) (by decide))) (by exact (ev_l1 e22 (by decide) (by decide)))
      · intro K55 hK55
        refine ev_r_jn (Q := fun K => ∀ (x57 : Int) (hx57 : ev_rng x57), ∀ (s66 : ev_St) (w58 : List (Nat × Value)), ev_lk w58 0 = some (.ref 254) → ev_lk w58 1 = some (.int (Int32.ofInt a0)) → ev_lk w58 2 = some (.int (Int32.ofInt a1)) → ev_lk w58 3 = some (.int (Int32.ofInt a2)) → ev_lk w58 4 = some (.int (Int32.ofInt a3)) → ev_lk w58 5 = some (.int (Int32.ofInt x1)) → ev_lk w58 6 = some (.int (Int32.ofInt x57)) → ev_w none (ev_Mof 10) d 50 w58 [] s66 (K x57 s66) ev_eU ev_PU) ?_ ?_
        · intro x57 hx57 s66 w58 e59 e60 e61 e62 e63 e64 e65
          refine ev_r_iconst (pc := 50) (k := 1) (by decide +kernel) ?_
          refine ev_r_goto (pc := 51) (o := 4) (t := 55) (by decide +kernel) (by decide +kernel) ?_
          exact hK55 x57 hx57 1 (by decide) s66 _ (by exact e59) (by exact e60) (by exact e61) (by exact e62) (by exact e63) (by exact e64) (by exact e65)
        · intro K50 hK50
          refine ev_r_icmp (pc := 31) (q := .lt) (o := 19) (t := 50) (c := x13 < a1) (by decide +kernel) (ev_k_lt hx13 ha1) (by decide +kernel) ?_ ?_
          · intro c67
            exact hK50 x13 hx13 s9 _ (by exact (ev_l1 e3 (by decide) (by decide))) (by exact (ev_l1 e4 (by decide) (by decide))) (by exact (ev_l1 e5 (by decide) (by decide))) (by exact (ev_l1 e6 (by decide) (by decide))) (by exact (ev_l1 e7 (by decide) (by decide))) (by exact (ev_lk_st1 e8 (by decide) rfl)) (by exact ev_lk_st1_self)
          · intro c67
            refine ev_r_iload (pc := 34) (k := 6) (v := Int32.ofInt x13) (by decide +kernel) (by exact ev_lk_st1_self) ?_
            refine ev_r_iload_n (pc := 36) (k := 2) (v := Int32.ofInt a1) (by decide +kernel) (by exact (ev_l1 e5 (by decide) (by decide))) ?_
            refine ev_r_jn (Q := fun K => ∀ (s76 : ev_St) (w68 : List (Nat × Value)), ev_lk w68 0 = some (.ref 254) → ev_lk w68 1 = some (.int (Int32.ofInt a0)) → ev_lk w68 2 = some (.int (Int32.ofInt a1)) → ev_lk w68 3 = some (.int (Int32.ofInt a2)) → ev_lk w68 4 = some (.int (Int32.ofInt a3)) → ev_lk w68 5 = some (.int (Int32.ofInt x1)) → ev_lk w68 6 = some (.int (Int32.ofInt x13)) → ev_w none (ev_Mof 10) d 54 w68 [] s76 (K  s76) ev_eU ev_PU) ?_ ?_
            · intro  s76 w68 e69 e70 e71 e72 e73 e74 e75
              refine ev_r_iconst (pc := 54) (k := 0) (by decide +kernel) ?_
              exact hK55 x13 hx13 0 (by decide) s76 _ (by exact e69) (by exact e70) (by exact e71) (by exact e72) (by exact e73) (by exact e74) (by exact e75)
            · intro K54 hK54
              refine ev_r_icmp (pc := 37) (q := .ne) (o := 17) (t := 54) (c := x13 ≠ a1) (by decide +kernel) (ev_k_ne hx13 ha1) (by decide +kernel) ?_ ?_
              · intro c77
                exact hK54  s9 _ (by exact (ev_l1 e3 (by decide) (by decide))) (by exact (ev_l1 e4 (by decide) (by decide))) (by exact (ev_l1 e5 (by decide) (by decide))) (by exact (ev_l1 e6 (by decide) (by decide))) (by exact (ev_l1 e7 (by decide) (by decide))) (by exact (ev_lk_st1 e8 (by decide) rfl)) (by exact ev_lk_st1_self)
              · intro c77
                refine ev_r_aload_n (pc := 40) (k := 0) (v := .ref 254) trivial (by decide +kernel) (by exact (ev_l1 e3 (by decide) (by decide))) ?_
                refine ev_r_getC (pc := 41) (y := 21) (ci := 0) (f := 2) (fin := 1) (k' := 257) (by decide +kernel) (by decide +kernel) (by exact ev_ob_254) rfl rfl ?_
                refine ev_r_iload (pc := 44) (k := 5) (v := Int32.ofInt x1) (by decide +kernel) (by exact (ev_lk_st1 e8 (by decide) rfl)) ?_
                refine ev_r_bald (pc := 46) (ty := .boolean) (Or.inr rfl) hx1 (by decide +kernel) (by exact ev_ab_257) ?_
                intro x78 hx78
                refine ev_r_if (pc := 47) (q := .ne) (o := 7) (t := 54) (c := x78 ≠ 0) (by decide +kernel) (ev_k_ne hx78 ev_rng0) (by decide +kernel) ?_ ?_
                · intro c79
                  exact hK54  s9 _ (by exact (ev_l1 e3 (by decide) (by decide))) (by exact (ev_l1 e4 (by decide) (by decide))) (by exact (ev_l1 e5 (by decide) (by decide))) (by exact (ev_l1 e6 (by decide) (by decide))) (by exact (ev_l1 e7 (by decide) (by decide))) (by exact (ev_lk_st1 e8 (by decide) rfl)) (by exact ev_lk_st1_self)
                · intro c79
                  exact hK50 x13 hx13 s9 _ (by exact (ev_l1 e3 (by decide) (by decide))) (by exact (ev_l1 e4 (by decide) (by decide))) (by exact (ev_l1 e5 (by decide) (by decide))) (by exact (ev_l1 e6 (by decide) (by decide))) (by exact (ev_l1 e7 (by decide) (by decide))) (by exact (ev_lk_st1 e8 (by decide) rfl)) (by exact ev_lk_st1_self)
theorem jlt_10_3 (d : Nat) (hd : 1 ≤ d + 1) (Q : Nat) (a0 : Int) (a1 : Int) (a2 : Int) (a3 : Int) (ha0 : ev_rng a0) (ha1 : ev_rng a1) (ha2 : ev_rng a2) (ha3 : ev_rng a3)   : ∀ q : Nat, ∀ (x1 : Int) (hx1 : ev_rng x1), ∀ (s9 : ev_St) (w2 : List (Nat × Value)), ev_lk w2 0 = some (.ref 254) → ev_lk w2 1 = some (.int (Int32.ofInt a0)) → ev_lk w2 2 = some (.int (Int32.ofInt a1)) → ev_lk w2 3 = some (.int (Int32.ofInt a2)) → ev_lk w2 4 = some (.int (Int32.ofInt a3)) → ev_lk w2 5 = some (.int (Int32.ofInt x1)) → ev_w none (ev_Mof 10) d 3 w2 [] s9 (jl_10_3 Q a0 a1 a2 a3  q x1 s9) ev_eU ev_PU := by
  intro q
  induction q with
  | zero =>
    intro x1 hx1 s9 w2 e3 e4 e5 e6 e7 e8
    exact ev_w_none
  | succ q ih => exact jbt_10_3 d hd Q a0 a1 a2 a3 ha0 ha1 ha2 ha3   _ ih
/-- MendBench$Buffers.moveMarks(IIII)V -/
def jm_10 (Q : Nat) (a0 : Int) (a1 : Int) (a2 : Int) (a3 : Int) (S : ev_St) : Option ((Unit) × ev_St) := jl_10_3 Q a0 a1 a2 a3  Q 0 S
theorem jt_10 (d : Nat) (hd : 1 ≤ d) (Q : Nat) (a0 : Int) (a1 : Int) (a2 : Int) (a3 : Int) (ha0 : ev_rng a0) (ha1 : ev_rng a1) (ha2 : ev_rng a2) (ha3 : ev_rng a3) (S : ev_St) (x : Unit) (S' : ev_St) (hJ : jm_10 Q a0 a1 a2 a3 S = some (x, S')) : ev_Ref d 10 [.ref 254, .int (Int32.ofInt a0), .int (Int32.ofInt a1), .int (Int32.ofInt a2), .int (Int32.ofInt a3)] S (ev_eU x) S' (ev_PU x) := by
  obtain ⟨d, rfl⟩ : ∃ e, d = e + 1 := ⟨d - 1, by omega⟩
  refine ev_ref_of (P := ev_PU) (lv := [(0, .ref 254), (1, .int (Int32.ofInt a0)), (2, .int (Int32.ofInt a1)), (3, .int (Int32.ofInt a2)), (4, .int (Int32.ofInt a3))]) (by decide +kernel) (by (try simp only [ev_sum, ev_nv_cat]); first | done | rfl) (by (try simp only [lv_args, ev_nv_cat]); first | done | rfl) ?_ x S' hJ
  unfold jm_10
  refine ev_r_iconst (pc := 0) (k := 0) (by decide +kernel) ?_
  refine ev_r_istore (pc := 1) (k := 5) (by decide +kernel) (by decide +kernel) rfl ?_
  exact jlt_10_3 d hd Q a0 a1 a2 a3 ha0 ha1 ha2 ha3   Q 0 (by decide) S _ (by exact (ev_l1 (by rfl) (by decide) (by decide))) (by exact (ev_l1 (by rfl) (by decide) (by decide))) (by exact (ev_l1 (by rfl) (by decide) (by decide))) (by exact (ev_l1 (by rfl) (by decide) (by decide))) (by exact (ev_lk_st1 (by rfl) (by decide) rfl)) (by exact ev_lk_st1_self)
def jb_9_40 (Q : Nat) (a1 : Int) (a2 : Int) (a3 : Int) (x1 : Int) (x3 : Int) (r5 : Nat)  (K40 : Int → ev_St → Option ((Unit) × ev_St)) (x9 : Int) (s19 : ev_St) : Option ((Unit) × ev_St) := if a2 ≤ x9 then (ev_bd (jm_154 Q ((r5 - 1)) x3 a1 ((262 + 1)) 0 a2 s19) fun _ s21 => ev_ck (x3 + a1) fun x22 => ev_bd (jm_10 Q x1 x3 x22 a2 s21) fun _ s23 => some ((), s23)) else (ev_ck (a3 + x9) fun x24 => ev_bd (jm_16 Q x24 s19) fun x26 s25 => ev_if ((0 : Int) ≤ x9 ∧ x9 < (ev_aln 262 : Int)) (ev_b (ev_pI s25 262 (Int.toNat x9) x26) fun s27 => ev_ck (x9 + 1) fun x28 => K40 x28 s27))
def jl_9_40 (Q : Nat) (a1 : Int) (a2 : Int) (a3 : Int) (x1 : Int) (x3 : Int) (r5 : Nat)  : Nat → Int → ev_St → Option ((Unit) × ev_St)
  | 0 => fun _ _ => none
  | q + 1 => jb_9_40 Q a1 a2 a3 x1 x3 r5  (jl_9_40 Q a1 a2 a3 x1 x3 r5  q)
theorem jbt_9_40 (d : Nat) (hd : 2 ≤ d + 1) (Q : Nat) (a1 : Int) (a2 : Int) (a3 : Int) (x1 : Int) (x3 : Int) (r5 : Nat) (ha1 : ev_rng a1) (ha2 : ev_rng a2) (ha3 : ev_rng a3) (hx1 : ev_rng x1) (hx3 : ev_rng x3) (hr5 : r5 = 0 ∨ ev_isOb (r5 - 1) 10 = true) (c6 : ¬ r5 = 0)   (K40 : Int → ev_St → Option ((Unit) × ev_St)) (hK40 : ∀ (x9 : Int) (hx9 : ev_rng x9), ∀ (s19 : ev_St) (w10 : List (Nat × Value)), ev_lk w10 0 = some (.ref 254) → ev_lk w10 2 = some (.int (Int32.ofInt a1)) → ev_lk w10 3 = some (.int (Int32.ofInt a2)) → ev_lk w10 4 = some (.int (Int32.ofInt a3)) → ev_lk w10 5 = some (.int (Int32.ofInt x1)) → ev_lk w10 6 = some (.int (Int32.ofInt x3)) → ev_lk w10 7 = some (ev_nv r5) → ev_lk w10 8 = some (.int (Int32.ofInt x9)) → ev_w none (ev_Mof 9) d 40 w10 [] s19 (K40 x9 s19) ev_eU ev_PU) : ∀ (x9 : Int) (hx9 : ev_rng x9), ∀ (s19 : ev_St) (w10 : List (Nat × Value)), ev_lk w10 0 = some (.ref 254) → ev_lk w10 2 = some (.int (Int32.ofInt a1)) → ev_lk w10 3 = some (.int (Int32.ofInt a2)) → ev_lk w10 4 = some (.int (Int32.ofInt a3)) → ev_lk w10 5 = some (.int (Int32.ofInt x1)) → ev_lk w10 6 = some (.int (Int32.ofInt x3)) → ev_lk w10 7 = some (ev_nv r5) → ev_lk w10 8 = some (.int (Int32.ofInt x9)) → ev_w none (ev_Mof 9) d 40 w10 [] s19 (jb_9_40 Q a1 a2 a3 x1 x3 r5  K40 x9 s19) ev_eU ev_PU := by
  intro x9 hx9 s19 w10 e11 e12 e13 e14 e15 e16 e17 e18
  unfold jb_9_40
  refine ev_r_iload (pc := 40) (k := 8) (v := Int32.ofInt x9) (by decide +kernel) (by exact e18) ?_
  refine ev_r_iload_n (pc := 42) (k := 3) (v := Int32.ofInt a2) (by decide +kernel) (by exact e13) ?_
  refine ev_r_icmp (pc := 43) (q := .ge) (o := 25) (t := 68) (c := a2 ≤ x9) (by decide +kernel) (ev_k_ge hx9 ha2) (by decide +kernel) ?_ ?_
  · intro c20
    refine ev_r_aload (pc := 68) (k := 7) (v := ev_nv r5) (ev_isR_nv _) (by decide +kernel) (by exact e17) ?_
    refine ev_r_iload (pc := 70) (k := 6) (v := Int32.ofInt x3) (by decide +kernel) (by exact e16) ?_
    refine ev_r_iload_n (pc := 72) (k := 2) (v := Int32.ofInt a1) (by decide +kernel) (by exact e12) ?_
    refine ev_r_aload_n (pc := 73) (k := 0) (v := .ref 254) trivial (by decide +kernel) (by exact e11) ?_
    refine ev_r_getC (pc := 74) (y := 42) (ci := 0) (f := 8) (fin := 1) (k' := 262) (by decide +kernel) (by decide +kernel) (by exact ev_ob_254) rfl rfl ?_
    refine ev_r_iconst (pc := 77) (k := 0) (by decide +kernel) ?_
    refine ev_r_iload_n (pc := 78) (k := 3) (v := Int32.ofInt a2) (by decide +kernel) (by exact e13) ?_
    refine ev_r_dr (r := r5) (fun v => [.int (Int32.ofInt a2), .int (Int32.ofInt 0), .ref 262, .int (Int32.ofInt a1), .int (Int32.ofInt x3), v]) c6 ?_
    refine ev_r_virt (pc := 79) (y := 108) (mi := 154) (na := 5) (k := (r5 - 1)) (as := [.int (Int32.ofInt x3), .int (Int32.ofInt a1), ev_nv ((262 + 1)), .int (Int32.ofInt 0), .int (Int32.ofInt a2)]) (rest := []) (encc := ev_oU) (Q := ev_PU) (fun x S1 h => jt_154 d (by omega) Q ((r5 - 1)) x3 a1 ((262 + 1)) 0 a2 (hr5.resolve_left c6) hx3 ha1 (by exact (Or.inr ev_ab_262)) (by decide) ha2 s19 x S1 h) (by exact (hr5.resolve_left c6)) (by decide +kernel) (by decide +kernel) (by decide +kernel) (by decide +kernel) rfl (by (try simp only [ev_sum, ev_nv_cat]); first | done | rfl) ?_
    intro _ s21 _
    show ev_w _ _ _ _ _ [] _ _ _ _
    refine ev_r_aload_n (pc := 82) (k := 0) (v := .ref 254) trivial (by decide +kernel) (by exact e11) ?_
    refine ev_r_iload (pc := 83) (k := 5) (v := Int32.ofInt x1) (by decide +kernel) (by exact e15) ?_
    refine ev_r_iload (pc := 85) (k := 6) (v := Int32.ofInt x3) (by decide +kernel) (by exact e16) ?_
    refine ev_r_iload (pc := 87) (k := 6) (v := Int32.ofInt x3) (by decide +kernel) (by exact e16) ?_
    refine ev_r_iload_n (pc := 89) (k := 2) (v := Int32.ofInt a1) (by decide +kernel) (by exact e12) ?_
    refine ev_r_iadd (pc := 90) (by decide +kernel) ?_
    intro x22 hx22
    refine ev_r_iload_n (pc := 91) (k := 3) (v := Int32.ofInt a2) (by decide +kernel) (by exact e13) ?_
    refine ev_r_virt (pc := 92) (y := 112) (mi := 10) (na := 4) (k := 254) (as := [.int (Int32.ofInt x1), .int (Int32.ofInt x3), .int (Int32.ofInt x22), .int (Int32.ofInt a2)]) (rest := []) (encc := ev_oU) (Q := ev_PU) (fun x S1 h => jt_10 d (by omega) Q x1 x3 x22 a2 hx1 hx3 hx22 ha2 s21 x S1 h) (by exact ev_ob_254) (by decide +kernel) (by decide +kernel) (by decide +kernel) (by decide +kernel) rfl (by (try simp only [ev_sum, ev_nv_cat]); first | done | rfl) ?_
    intro _ s23 _
    show ev_w _ _ _ _ _ [] _ _ _ _
    exact ev_r_return (pc := 95) (x := ()) trivial (by decide +kernel) (by decide +kernel) rfl
  · intro c20
    refine ev_r_aload_n (pc := 46) (k := 0) (v := .ref 254) trivial (by decide +kernel) (by exact e11) ?_
    refine ev_r_getC (pc := 47) (y := 42) (ci := 0) (f := 8) (fin := 1) (k' := 262) (by decide +kernel) (by decide +kernel) (by exact ev_ob_254) rfl rfl ?_
    refine ev_r_iload (pc := 50) (k := 8) (v := Int32.ofInt x9) (by decide +kernel) (by exact e18) ?_
    refine ev_r_aload_n (pc := 52) (k := 0) (v := .ref 254) trivial (by decide +kernel) (by exact e11) ?_
    refine ev_r_iload (pc := 53) (k := 4) (v := Int32.ofInt a3) (by decide +kernel) (by exact e14) ?_
    refine ev_r_iload (pc := 55) (k := 8) (v := Int32.ofInt x9) (by decide +kernel) (by exact e18) ?_
    refine ev_r_iadd (pc := 57) (by decide +kernel) ?_
    intro x24 hx24
    refine ev_r_virt (pc := 58) (y := 105) (mi := 16) (na := 1) (k := 254) (as := [.int (Int32.ofInt x24)]) (rest := [.int (Int32.ofInt x9), .ref 262]) (encc := ev_oI) (Q := ev_rng) (fun x S1 h => jt_16 d (by omega) Q x24 hx24 s19 x S1 h) (by exact ev_ob_254) (by decide +kernel) (by decide +kernel) (by decide +kernel) (by decide +kernel) rfl (by (try simp only [ev_sum, ev_nv_cat]); first | done | rfl) ?_
    intro x26 s25 hx26
    show ev_w _ _ _ _ _ [.int (Int32.ofInt x26), .int (Int32.ofInt x9), .ref 262] _ _ _ _
    refine ev_r_iast (pc := 61) hx26 hx9 (by decide +kernel) (by exact ev_ab_262) ?_
    intro s27
    refine ev_r_iinc (pc := 62) (k := 8) (c := 1) (x := x9) (by decide +kernel) (by decide +kernel) (by exact e18) (fun _ => rfl) ?_
    intro x28 hx28
    refine ev_r_goto (pc := 65) (o := (-25)) (t := 40) (by decide +kernel) (by decide +kernel) ?_
    exact hK40 x28 hx28 s27 _ (by exact (ev_l1 e11 (by decide) (by decide))) (by exact (ev_l1 e12 (by decide) (by decide))) (by exact (ev_l1 e13 (by decide) (by decide))) (by exact (ev_l1 e14 (by decide) (by decide))) (by exact (ev_l1 e15 (by decide) (by decide))) (by exact (ev_l1 e16 (by decide) (by decide))) (by exact (ev_lk_st1 e17 (by decide) (ev_nv_cat _))) (by exact ev_lk_st1_self)
theorem jlt_9_40 (d : Nat) (hd : 2 ≤ d + 1) (Q : Nat) (a1 : Int) (a2 : Int) (a3 : Int) (x1 : Int) (x3 : Int) (r5 : Nat) (ha1 : ev_rng a1) (ha2 : ev_rng a2) (ha3 : ev_rng a3) (hx1 : ev_rng x1) (hx3 : ev_rng x3) (hr5 : r5 = 0 ∨ ev_isOb (r5 - 1) 10 = true) (c6 : ¬ r5 = 0)   : ∀ q : Nat, ∀ (x9 : Int) (hx9 : ev_rng x9), ∀ (s19 : ev_St) (w10 : List (Nat × Value)), ev_lk w10 0 = some (.ref 254) → ev_lk w10 2 = some (.int (Int32.ofInt a1)) → ev_lk w10 3 = some (.int (Int32.ofInt a2)) → ev_lk w10 4 = some (.int (Int32.ofInt a3)) → ev_lk w10 5 = some (.int (Int32.ofInt x1)) → ev_lk w10 6 = some (.int (Int32.ofInt x3)) → ev_lk w10 7 = some (ev_nv r5) → ev_lk w10 8 = some (.int (Int32.ofInt x9)) → ev_w none (ev_Mof 9) d 40 w10 [] s19 (jl_9_40 Q a1 a2 a3 x1 x3 r5  q x9 s19) ev_eU ev_PU := by
  intro q
  induction q with
  | zero =>
    intro x9 hx9 s19 w10 e11 e12 e13 e14 e15 e16 e17 e18
    exact ev_w_none
  | succ q ih => exact jbt_9_40 d hd Q a1 a2 a3 x1 x3 r5 ha1 ha2 ha3 hx1 hx3 hr5 c6   _ ih
/-- MendBench$Buffers.perform(IIII)V -/
def jm_9 (Q : Nat) (a0 : Int) (a1 : Int) (a2 : Int) (a3 : Int) (S : ev_St) : Option ((Unit) × ev_St) := ev_if (4 ≠ 0) (ev_b (ev_irem a0 4) fun x1 => ev_if (4 ≠ 0) (ev_b (ev_idiv a0 4) fun x2 => ev_if (256 ≠ 0) (ev_b (ev_irem x2 256) fun x3 => ev_bd (jm_1 Q x1 S) fun r5 s4 => if (r5 : Nat) = 0 then (some ((), s4)) else (ev_b (ev_aln 262 : Int) fun x7 => if a2 ≤ x7 then (jl_9_40 Q a1 a2 a3 x1 x3 r5  Q 0 s4) else (some ((), s4))))))
theorem jt_9 (d : Nat) (hd : 2 ≤ d) (Q : Nat) (a0 : Int) (a1 : Int) (a2 : Int) (a3 : Int) (ha0 : ev_rng a0) (ha1 : ev_rng a1) (ha2 : ev_rng a2) (ha3 : ev_rng a3) (S : ev_St) (x : Unit) (S' : ev_St) (hJ : jm_9 Q a0 a1 a2 a3 S = some (x, S')) : ev_Ref d 9 [.ref 254, .int (Int32.ofInt a0), .int (Int32.ofInt a1), .int (Int32.ofInt a2), .int (Int32.ofInt a3)] S (ev_eU x) S' (ev_PU x) := by
  obtain ⟨d, rfl⟩ : ∃ e, d = e + 1 := ⟨d - 1, by omega⟩
  refine ev_ref_of (P := ev_PU) (lv := [(0, .ref 254), (1, .int (Int32.ofInt a0)), (2, .int (Int32.ofInt a1)), (3, .int (Int32.ofInt a2)), (4, .int (Int32.ofInt a3))]) (by decide +kernel) (by (try simp only [ev_sum, ev_nv_cat]); first | done | rfl) (by (try simp only [lv_args, ev_nv_cat]); first | done | rfl) ?_ x S' hJ
  unfold jm_9
  refine ev_r_iload_n (pc := 0) (k := 1) (v := Int32.ofInt a0) (by decide +kernel) (by rfl) ?_
  refine ev_r_iconst (pc := 1) (k := 4) (by decide +kernel) ?_
  refine ev_r_irem (pc := 2) (by decide) (by decide +kernel) ?_
  intro x1 hx1
  refine ev_r_istore (pc := 3) (k := 5) (by decide +kernel) (by decide +kernel) rfl ?_
  refine ev_r_iload_n (pc := 5) (k := 1) (v := Int32.ofInt a0) (by decide +kernel) (by exact (ev_l1 (by rfl) (by decide) (by decide))) ?_
  refine ev_r_iconst (pc := 6) (k := 4) (by decide +kernel) ?_
  refine ev_r_idiv (pc := 7) (by decide) (by decide +kernel) ?_
  intro x2 hx2
  refine ev_r_sipush (pc := 8) (k := 256) (by decide +kernel) (by decide +kernel) ?_
  refine ev_r_irem (pc := 11) (by decide) (by decide +kernel) ?_
  intro x3 hx3
  refine ev_r_istore (pc := 12) (k := 6) (by decide +kernel) (by decide +kernel) rfl ?_
  refine ev_r_aload_n (pc := 14) (k := 0) (v := .ref 254) trivial (by decide +kernel) (by exact (ev_l1 (ev_l1 (by rfl) (by decide) (by decide)) (by decide) (by decide))) ?_
  refine ev_r_iload (pc := 15) (k := 5) (v := Int32.ofInt x1) (by decide +kernel) (by exact (ev_lk_st1 ev_lk_st1_self (by decide) rfl)) ?_
  refine ev_r_virt (pc := 17) (y := 63) (mi := 1) (na := 1) (k := 254) (as := [.int (Int32.ofInt x1)]) (rest := []) (encc := ev_oR) (Q := (fun r => r = 0 ∨ ev_isOb (r - 1) 10 = true)) (fun x S1 h => jt_1 d (by omega) Q x1 hx1 S x S1 h) (by exact ev_ob_254) (by decide +kernel) (by decide +kernel) (by decide +kernel) (by decide +kernel) rfl (by (try simp only [ev_sum, ev_nv_cat]); first | done | rfl) ?_
  intro r5 s4 hr5
  show ev_w _ _ _ _ _ [ev_nv r5] _ _ _ _
  refine ev_r_astore (pc := 20) (k := 7) (ev_isR_nv _) (by decide +kernel) (by decide +kernel) rfl ?_
  refine ev_r_aload (pc := 22) (k := 7) (v := ev_nv r5) (ev_isR_nv _) (by decide +kernel) (by exact ev_lk_st1_self) ?_
  refine ev_r_ifnull (pc := 24) (r := r5) (o := 12) (t := 36) (by decide +kernel) (by decide +kernel) ?_ ?_
  · intro c6
    exact ev_r_return (pc := 36) (x := ()) trivial (by decide +kernel) (by decide +kernel) rfl
  · intro c6
    refine ev_r_iload_n (pc := 27) (k := 3) (v := Int32.ofInt a2) (by decide +kernel) (by exact (ev_l1 (ev_l1 (ev_l1 (by rfl) (by decide) (by decide)) (by decide) (by decide)) (by decide) (by decide))) ?_
    refine ev_r_aload_n (pc := 28) (k := 0) (v := .ref 254) trivial (by decide +kernel) (by exact (ev_l1 (ev_l1 (ev_l1 (by rfl) (by decide) (by decide)) (by decide) (by decide)) (by decide) (by decide))) ?_
    refine ev_r_getC (pc := 29) (y := 42) (ci := 0) (f := 8) (fin := 1) (k' := 262) (by decide +kernel) (by decide +kernel) (by exact ev_ob_254) rfl rfl ?_
    refine ev_r_alen (pc := 32) (kd := 1) (ty := .int) (Or.inl rfl) (by decide +kernel) (by exact ev_ab_262) ?_
    intro x7 hx7
    refine ev_r_icmp (pc := 33) (q := .le) (o := 4) (t := 37) (c := a2 ≤ x7) (by decide +kernel) (ev_k_le ha2 hx7) (by decide +kernel) ?_ ?_
    · intro c8
      refine ev_r_iconst (pc := 37) (k := 0) (by decide +kernel) ?_
      refine ev_r_istore (pc := 38) (k := 8) (by decide +kernel) (by decide +kernel) rfl ?_
      exact jlt_9_40 d hd Q a1 a2 a3 x1 x3 r5 ha1 ha2 ha3 hx1 hx3 hr5 c6   Q 0 (by decide) s4 _ (by exact (ev_l1 (ev_l1 (ev_l1 (ev_l1 (by rfl) (by decide) (by decide)) (by decide) (by decide)) (by decide) (by decide)) (by decide) (by decide))) (by exact (ev_l1 (ev_l1 (ev_l1 (ev_l1 (by rfl) (by decide) (by decide)) (by decide) (by decide)) (by decide) (by decide)) (by decide) (by decide))) (by exact (ev_l1 (ev_l1 (ev_l1 (ev_l1 (by rfl) (by decide) (by decide)) (by decide) (by decide)) (by decide) (by decide)) (by decide) (by decide))) (by exact (ev_l1 (ev_l1 (ev_l1 (ev_lk_st1 (by rfl) (by decide) rfl) (by decide) (by decide)) (by decide) (by decide)) (by decide) (by decide))) (by exact (ev_l1 (ev_l1 (ev_lk_st1 ev_lk_st1_self (by decide) rfl) (by decide) (by decide)) (by decide) (by decide))) (by exact (ev_l1 (ev_lk_st1 ev_lk_st1_self (by decide) rfl) (by decide) (by decide))) (by exact (ev_lk_st1 ev_lk_st1_self (by decide) (ev_nv_cat _))) (by exact ev_lk_st1_self)
    · intro c8
      exact ev_r_return (pc := 36) (x := ()) trivial (by decide +kernel) (by decide +kernel) rfl
/-- MendBench$Buffers.redoEdit()V -/
def jm_7 (Q : Nat)  (S : ev_St) : Option ((Unit) × ev_St) := ev_b (S.1 254 9) fun x1 => ev_bd (jm_14 Q x1 S) fun x3 s2 => ev_if (1024 ≠ 0) (ev_b (ev_idiv x3 1024) fun x4 => ev_if (256 ≠ 0) (ev_b (ev_irem x4 256) fun x5 => ev_if (262144 ≠ 0) (ev_b (ev_idiv x3 262144) fun x6 => ev_b (s2.1 254 10) fun x7 => ev_ck (x7 + x5) fun x8 => ev_bd (jm_9 Q x3 x5 x6 x8 s2) fun _ s9 => ev_b (s9.1 254 9) fun x10 => ev_ck (x10 + 1) fun x11 => ev_b (ev_pI s9 254 9 x11) fun s12 => ev_b (s12.1 254 10) fun x13 => ev_ck (x5 + x6) fun x14 => ev_ck (x13 + x14) fun x15 => ev_b (ev_pI s12 254 10 x15) fun s16 => some ((), s16))))
theorem jt_7 (d : Nat) (hd : 3 ≤ d) (Q : Nat)   (S : ev_St) (x : Unit) (S' : ev_St) (hJ : jm_7 Q  S = some (x, S')) : ev_Ref d 7 [.ref 254] S (ev_eU x) S' (ev_PU x) := by
  obtain ⟨d, rfl⟩ : ∃ e, d = e + 1 := ⟨d - 1, by omega⟩
  refine ev_ref_of (P := ev_PU) (lv := [(0, .ref 254)]) (by decide +kernel) (by (try simp only [ev_sum, ev_nv_cat]); first | done | rfl) (by (try simp only [lv_args, ev_nv_cat]); first | done | rfl) ?_ x S' hJ
  unfold jm_7
  refine ev_r_aload_n (pc := 0) (k := 0) (v := .ref 254) trivial (by decide +kernel) (by rfl) ?_
  refine ev_r_aload_n (pc := 1) (k := 0) (v := .ref 254) trivial (by decide +kernel) (by rfl) ?_
  refine ev_r_getI (pc := 2) (y := 74) (ci := 0) (f := 9) (fin := 0) (by decide +kernel) (by decide +kernel) (by exact ev_ob_254) rfl ?_
  intro x1 hx1
  refine ev_r_virt (pc := 5) (y := 98) (mi := 14) (na := 1) (k := 254) (as := [.int (Int32.ofInt x1)]) (rest := []) (encc := ev_oI) (Q := ev_rng) (fun x S1 h => jt_14 d (by omega) Q x1 hx1 S x S1 h) (by exact ev_ob_254) (by decide +kernel) (by decide +kernel) (by decide +kernel) (by decide +kernel) rfl (by (try simp only [ev_sum, ev_nv_cat]); first | done | rfl) ?_
  intro x3 s2 hx3
  show ev_w _ _ _ _ _ [.int (Int32.ofInt x3)] _ _ _ _
  refine ev_r_istore_n (pc := 8) (k := 1) (by decide +kernel) (by decide +kernel) rfl ?_
  refine ev_r_iload_n (pc := 9) (k := 1) (v := Int32.ofInt x3) (by decide +kernel) (by exact ev_lk_st1_self) ?_
  refine ev_r_sipush (pc := 10) (k := 1024) (by decide +kernel) (by decide +kernel) ?_
  refine ev_r_idiv (pc := 13) (by decide) (by decide +kernel) ?_
  intro x4 hx4
  refine ev_r_sipush (pc := 14) (k := 256) (by decide +kernel) (by decide +kernel) ?_
  refine ev_r_irem (pc := 17) (by decide) (by decide +kernel) ?_
  intro x5 hx5
  refine ev_r_istore_n (pc := 18) (k := 2) (by decide +kernel) (by decide +kernel) rfl ?_
  refine ev_r_iload_n (pc := 19) (k := 1) (v := Int32.ofInt x3) (by decide +kernel) (by exact (ev_lk_st1 ev_lk_st1_self (by decide) rfl)) ?_
  refine ev_r_ldc (pc := 20) (y := 77) (k := 262144) (by decide +kernel) (by decide +kernel) ?_
  refine ev_r_idiv (pc := 22) (by decide) (by decide +kernel) ?_
  intro x6 hx6
  refine ev_r_istore_n (pc := 23) (k := 3) (by decide +kernel) (by decide +kernel) rfl ?_
  refine ev_r_aload_n (pc := 24) (k := 0) (v := .ref 254) trivial (by decide +kernel) (by exact (ev_l1 (ev_l1 (ev_lk_st1 (by rfl) (by decide) rfl) (by decide) (by decide)) (by decide) (by decide))) ?_
  refine ev_r_iload_n (pc := 25) (k := 1) (v := Int32.ofInt x3) (by decide +kernel) (by exact (ev_l1 (ev_lk_st1 ev_lk_st1_self (by decide) rfl) (by decide) (by decide))) ?_
  refine ev_r_iload_n (pc := 26) (k := 2) (v := Int32.ofInt x5) (by decide +kernel) (by exact (ev_lk_st1 ev_lk_st1_self (by decide) rfl)) ?_
  refine ev_r_iload_n (pc := 27) (k := 3) (v := Int32.ofInt x6) (by decide +kernel) (by exact ev_lk_st1_self) ?_
  refine ev_r_aload_n (pc := 28) (k := 0) (v := .ref 254) trivial (by decide +kernel) (by exact (ev_l1 (ev_l1 (ev_lk_st1 (by rfl) (by decide) rfl) (by decide) (by decide)) (by decide) (by decide))) ?_
  refine ev_r_getI (pc := 29) (y := 82) (ci := 0) (f := 10) (fin := 0) (by decide +kernel) (by decide +kernel) (by exact ev_ob_254) rfl ?_
  intro x7 hx7
  refine ev_r_iload_n (pc := 32) (k := 2) (v := Int32.ofInt x5) (by decide +kernel) (by exact (ev_lk_st1 ev_lk_st1_self (by decide) rfl)) ?_
  refine ev_r_iadd (pc := 33) (by decide +kernel) ?_
  intro x8 hx8
  refine ev_r_virt (pc := 34) (y := 101) (mi := 9) (na := 4) (k := 254) (as := [.int (Int32.ofInt x3), .int (Int32.ofInt x5), .int (Int32.ofInt x6), .int (Int32.ofInt x8)]) (rest := []) (encc := ev_oU) (Q := ev_PU) (fun x S1 h => jt_9 d (by omega) Q x3 x5 x6 x8 hx3 hx5 hx6 hx8 s2 x S1 h) (by exact ev_ob_254) (by decide +kernel) (by decide +kernel) (by decide +kernel) (by decide +kernel) rfl (by (try simp only [ev_sum, ev_nv_cat]); first | done | rfl) ?_
  intro _ s9 _
  show ev_w _ _ _ _ _ [] _ _ _ _
  refine ev_r_aload_n (pc := 37) (k := 0) (v := .ref 254) trivial (by decide +kernel) (by exact (ev_l1 (ev_l1 (ev_lk_st1 (by rfl) (by decide) rfl) (by decide) (by decide)) (by decide) (by decide))) ?_
  refine ev_r_dup (pc := 38) rfl (by decide +kernel) ?_
  refine ev_r_getI (pc := 39) (y := 74) (ci := 0) (f := 9) (fin := 0) (by decide +kernel) (by decide +kernel) (by exact ev_ob_254) rfl ?_
  intro x10 hx10
  refine ev_r_iconst (pc := 42) (k := 1) (by decide +kernel) ?_
  refine ev_r_iadd (pc := 43) (by decide +kernel) ?_
  intro x11 hx11
  refine ev_r_putI (pc := 44) (y := 74) (ci := 0) (f := 9) hx11 (by decide +kernel) (by decide +kernel) (by exact ev_ob_254) rfl rfl ?_
  intro s12
  refine ev_r_aload_n (pc := 47) (k := 0) (v := .ref 254) trivial (by decide +kernel) (by exact (ev_l1 (ev_l1 (ev_lk_st1 (by rfl) (by decide) rfl) (by decide) (by decide)) (by decide) (by decide))) ?_
  refine ev_r_dup (pc := 48) rfl (by decide +kernel) ?_
  refine ev_r_getI (pc := 49) (y := 82) (ci := 0) (f := 10) (fin := 0) (by decide +kernel) (by decide +kernel) (by exact ev_ob_254) rfl ?_
  intro x13 hx13
  refine ev_r_iload_n (pc := 52) (k := 2) (v := Int32.ofInt x5) (by decide +kernel) (by exact (ev_lk_st1 ev_lk_st1_self (by decide) rfl)) ?_
  refine ev_r_iload_n (pc := 53) (k := 3) (v := Int32.ofInt x6) (by decide +kernel) (by exact ev_lk_st1_self) ?_
  refine ev_r_iadd (pc := 54) (by decide +kernel) ?_
  intro x14 hx14
  refine ev_r_iadd (pc := 55) (by decide +kernel) ?_
  intro x15 hx15
  refine ev_r_putI (pc := 56) (y := 82) (ci := 0) (f := 10) hx15 (by decide +kernel) (by decide +kernel) (by exact ev_ob_254) rfl rfl ?_
  intro s16
  exact ev_r_return (pc := 59) (x := ()) trivial (by decide +kernel) (by decide +kernel) rfl
def jb_4_124 (Q : Nat) (a2 : Int) (a3 : Nat) (a4 : Int) (a5 : Int)  (K124 : Int → ev_St → Option ((Unit) × ev_St)) (x46 : Int) (s54 : ev_St) : Option ((Unit) × ev_St) := if a5 ≤ x46 then (ev_b (s54.1 254 11) fun x56 => ev_ck (x56 + 1) fun x57 => ev_b (ev_pI s54 254 11 x57) fun s58 => ev_bd (jm_7 Q  s58) fun _ s59 => some ((), s59)) else (ev_b (s54.1 254 10) fun x60 => ev_ck (x60 + a2) fun x61 => ev_ck (x61 + x46) fun x62 => ev_ck (a4 + x46) fun x63 => ev_if (a3 ≠ 0) (ev_if ((0 : Int) ≤ x63 ∧ x63 < (ev_aln ((a3 - 1)) : Int)) (ev_b (s54.1 ((a3 - 1)) (Int.toNat x63)) fun x65 => ev_bd (jm_15 Q x62 x65 s54) fun _ s66 => ev_ck (x46 + 1) fun x67 => K124 x67 s66)))
def jl_4_124 (Q : Nat) (a2 : Int) (a3 : Nat) (a4 : Int) (a5 : Int)  : Nat → Int → ev_St → Option ((Unit) × ev_St)
  | 0 => fun _ _ => none
  | q + 1 => jb_4_124 Q a2 a3 a4 a5  (jl_4_124 Q a2 a3 a4 a5  q)
theorem jbt_4_124 (d : Nat) (hd : 4 ≤ d + 1) (Q : Nat) (a2 : Int) (a3 : Nat) (a4 : Int) (a5 : Int) (ha2 : ev_rng a2) (ha3 : a3 = 0 ∨ ev_isAb (a3 - 1) 1 .int = true) (ha4 : ev_rng a4) (ha5 : ev_rng a5)   (K124 : Int → ev_St → Option ((Unit) × ev_St)) (hK124 : ∀ (x46 : Int) (hx46 : ev_rng x46), ∀ (s54 : ev_St) (w47 : List (Nat × Value)), ev_lk w47 0 = some (.ref 254) → ev_lk w47 3 = some (.int (Int32.ofInt a2)) → ev_lk w47 4 = some (ev_nv a3) → ev_lk w47 5 = some (.int (Int32.ofInt a4)) → ev_lk w47 6 = some (.int (Int32.ofInt a5)) → ev_lk w47 8 = some (.int (Int32.ofInt x46)) → ev_w none (ev_Mof 4) d 124 w47 [] s54 (K124 x46 s54) ev_eU ev_PU) : ∀ (x46 : Int) (hx46 : ev_rng x46), ∀ (s54 : ev_St) (w47 : List (Nat × Value)), ev_lk w47 0 = some (.ref 254) → ev_lk w47 3 = some (.int (Int32.ofInt a2)) → ev_lk w47 4 = some (ev_nv a3) → ev_lk w47 5 = some (.int (Int32.ofInt a4)) → ev_lk w47 6 = some (.int (Int32.ofInt a5)) → ev_lk w47 8 = some (.int (Int32.ofInt x46)) → ev_w none (ev_Mof 4) d 124 w47 [] s54 (jb_4_124 Q a2 a3 a4 a5  K124 x46 s54) ev_eU ev_PU := by
  intro x46 hx46 s54 w47 e48 e49 e50 e51 e52 e53
  unfold jb_4_124
  refine ev_r_iload (pc := 124) (k := 8) (v := Int32.ofInt x46) (by decide +kernel) (by exact e53) ?_
  refine ev_r_iload (pc := 126) (k := 6) (v := Int32.ofInt a5) (by decide +kernel) (by exact e52) ?_
  refine ev_r_icmp (pc := 128) (q := .ge) (o := 30) (t := 158) (c := a5 ≤ x46) (by decide +kernel) (ev_k_ge hx46 ha5) (by decide +kernel) ?_ ?_
  · intro c55
    refine ev_r_aload_n (pc := 158) (k := 0) (v := .ref 254) trivial (by decide +kernel) (by exact e48) ?_
    refine ev_r_dup (pc := 159) rfl (by decide +kernel) ?_
    refine ev_r_getI (pc := 160) (y := 54) (ci := 0) (f := 11) (fin := 0) (by decide +kernel) (by decide +kernel) (by exact ev_ob_254) rfl ?_
    intro x56 hx56
    refine ev_r_iconst (pc := 163) (k := 1) (by decide +kernel) ?_
    refine ev_r_iadd (pc := 164) (by decide +kernel) ?_
    intro x57 hx57
    refine ev_r_putI (pc := 165) (y := 54) (ci := 0) (f := 11) hx57 (by decide +kernel) (by decide +kernel) (by exact ev_ob_254) rfl rfl ?_
    intro s58
    refine ev_r_aload_n (pc := 168) (k := 0) (v := .ref 254) trivial (by decide +kernel) (by exact e48) ?_
    refine ev_r_virt (pc := 169) (y := 92) (mi := 7) (na := 0) (k := 254) (as := []) (rest := []) (encc := ev_oU) (Q := ev_PU) (fun x S1 h => jt_7 d (by omega) Q   s58 x S1 h) (by exact ev_ob_254) (by decide +kernel) (by decide +kernel) (by decide +kernel) (by decide +kernel) rfl (by (try simp only [ev_sum, ev_nv_cat]); first | done | rfl) ?_
    intro _ s59 _
    show ev_w _ _ _ _ _ [] _ _ _ _
    exact ev_r_return (pc := 172) (x := ()) trivial (by decide +kernel) (by decide +kernel) rfl
  · intro c55
    refine ev_r_aload_n (pc := 131) (k := 0) (v := .ref 254) trivial (by decide +kernel) (by exact e48) ?_
    refine ev_r_aload_n (pc := 132) (k := 0) (v := .ref 254) trivial (by decide +kernel) (by exact e48) ?_
    refine ev_r_getI (pc := 133) (y := 82) (ci := 0) (f := 10) (fin := 0) (by decide +kernel) (by decide +kernel) (by exact ev_ob_254) rfl ?_
    intro x60 hx60
    refine ev_r_iload_n (pc := 136) (k := 3) (v := Int32.ofInt a2) (by decide +kernel) (by exact e49) ?_
    refine ev_r_iadd (pc := 137) (by decide +kernel) ?_
    intro x61 hx61
    refine ev_r_iload (pc := 138) (k := 8) (v := Int32.ofInt x46) (by decide +kernel) (by exact e53) ?_
    refine ev_r_iadd (pc := 140) (by decide +kernel) ?_
    intro x62 hx62
    refine ev_r_aload (pc := 141) (k := 4) (v := ev_nv a3) (ev_isR_nv _) (by decide +kernel) (by exact e50) ?_
    refine ev_r_iload (pc := 143) (k := 5) (v := Int32.ofInt a4) (by decide +kernel) (by exact e51) ?_
    refine ev_r_iload (pc := 145) (k := 8) (v := Int32.ofInt x46) (by decide +kernel) (by exact e53) ?_
    refine ev_r_iadd (pc := 147) (by decide +kernel) ?_
    intro x63 hx63
    refine ev_r_chk ?_
    intro c64
    refine ev_r_dr (r := a3) (fun v => [.int (Int32.ofInt x63), v, .int (Int32.ofInt x62), .ref 254]) c64 ?_
    refine ev_r_iald (pc := 148) hx63 (by decide +kernel) (by exact (ha3.resolve_left c64)) ?_
    intro x65 hx65
    refine ev_r_virt (pc := 149) (y := 89) (mi := 15) (na := 2) (k := 254) (as := [.int (Int32.ofInt x62), .int (Int32.ofInt x65)]) (rest := []) (encc := ev_oU) (Q := ev_PU) (fun x S1 h => jt_15 d (by omega) Q x62 x65 hx62 hx65 s54 x S1 h) (by exact ev_ob_254) (by decide +kernel) (by decide +kernel) (by decide +kernel) (by decide +kernel) rfl (by (try simp only [ev_sum, ev_nv_cat]); first | done | rfl) ?_
    intro _ s66 _
    show ev_w _ _ _ _ _ [] _ _ _ _
    refine ev_r_iinc (pc := 152) (k := 8) (c := 1) (x := x46) (by decide +kernel) (by decide +kernel) (by exact e53) (fun _ => rfl) ?_
    intro x67 hx67
    refine ev_r_goto (pc := 155) (o := (-31)) (t := 124) (by decide +kernel) (by decide +kernel) ?_
    exact hK124 x67 hx67 s66 _ (by exact (ev_l1 e48 (by decide) (by decide))) (by exact (ev_l1 e49 (by decide) (by decide))) (by exact (ev_l1 e50 (by decide) (by decide))) (by exact (ev_l1 e51 (by decide) (by decide))) (by exact (ev_l1 e52 (by decide) (by decide))) (by exact ev_lk_st1_self)
theorem jlt_4_124 (d : Nat) (hd : 4 ≤ d + 1) (Q : Nat) (a2 : Int) (a3 : Nat) (a4 : Int) (a5 : Int) (ha2 : ev_rng a2) (ha3 : a3 = 0 ∨ ev_isAb (a3 - 1) 1 .int = true) (ha4 : ev_rng a4) (ha5 : ev_rng a5)   : ∀ q : Nat, ∀ (x46 : Int) (hx46 : ev_rng x46), ∀ (s54 : ev_St) (w47 : List (Nat × Value)), ev_lk w47 0 = some (.ref 254) → ev_lk w47 3 = some (.int (Int32.ofInt a2)) → ev_lk w47 4 = some (ev_nv a3) → ev_lk w47 5 = some (.int (Int32.ofInt a4)) → ev_lk w47 6 = some (.int (Int32.ofInt a5)) → ev_lk w47 8 = some (.int (Int32.ofInt x46)) → ev_w none (ev_Mof 4) d 124 w47 [] s54 (jl_4_124 Q a2 a3 a4 a5  q x46 s54) ev_eU ev_PU := by
  intro q
  induction q with
  | zero =>
    intro x46 hx46 s54 w47 e48 e49 e50 e51 e52 e53
    exact ev_w_none
  | succ q ih => exact jbt_4_124 d hd Q a2 a3 a4 a5 ha2 ha3 ha4 ha5   _ ih
def jb_4_89 (Q : Nat) (a1 : Int) (a2 : Int) (a3 : Nat) (a4 : Int) (a5 : Int) (r2 : Nat)  (K89 : Int → ev_St → Option ((Unit) × ev_St)) (x34 : Int) (s44 : ev_St) : Option ((Unit) × ev_St) := if a2 ≤ x34 then (jl_4_124 Q a2 a3 a4 a5  Q 0 s44) else (ev_b (s44.1 254 10) fun x68 => ev_ck (x68 + x34) fun x69 => ev_ck (a1 + x34) fun x70 => ev_bd (jm_151 Q ((r2 - 1)) x70 s44) fun x72 s71 => ev_bd (jm_15 Q x69 x72 s71) fun _ s73 => ev_ck (x34 + 1) fun x74 => K89 x74 s73)
def jl_4_89 (Q : Nat) (a1 : Int) (a2 : Int) (a3 : Nat) (a4 : Int) (a5 : Int) (r2 : Nat)  : Nat → Int → ev_St → Option ((Unit) × ev_St)
  | 0 => fun _ _ => none
  | q + 1 => jb_4_89 Q a1 a2 a3 a4 a5 r2  (jl_4_89 Q a1 a2 a3 a4 a5 r2  q)
theorem jbt_4_89 (d : Nat) (hd : 4 ≤ d + 1) (Q : Nat) (a1 : Int) (a2 : Int) (a3 : Nat) (a4 : Int) (a5 : Int) (r2 : Nat) (ha1 : ev_rng a1) (ha2 : ev_rng a2) (ha3 : a3 = 0 ∨ ev_isAb (a3 - 1) 1 .int = true) (ha4 : ev_rng a4) (ha5 : ev_rng a5) (hr2 : r2 = 0 ∨ ev_isOb (r2 - 1) 10 = true) (c3 : ¬ r2 = 0)   (K89 : Int → ev_St → Option ((Unit) × ev_St)) (hK89 : ∀ (x34 : Int) (hx34 : ev_rng x34), ∀ (s44 : ev_St) (w35 : List (Nat × Value)), ev_lk w35 0 = some (.ref 254) → ev_lk w35 2 = some (.int (Int32.ofInt a1)) → ev_lk w35 3 = some (.int (Int32.ofInt a2)) → ev_lk w35 4 = some (ev_nv a3) → ev_lk w35 5 = some (.int (Int32.ofInt a4)) → ev_lk w35 6 = some (.int (Int32.ofInt a5)) → ev_lk w35 7 = some (ev_nv r2) → ev_lk w35 8 = some (.int (Int32.ofInt x34)) → ev_w none (ev_Mof 4) d 89 w35 [] s44 (K89 x34 s44) ev_eU ev_PU) : ∀ (x34 : Int) (hx34 : ev_rng x34), ∀ (s44 : ev_St) (w35 : List (Nat × Value)), ev_lk w35 0 = some (.ref 254) → ev_lk w35 2 = some (.int (Int32.ofInt a1)) → ev_lk w35 3 = some (.int (Int32.ofInt a2)) → ev_lk w35 4 = some (ev_nv a3) → ev_lk w35 5 = some (.int (Int32.ofInt a4)) → ev_lk w35 6 = some (.int (Int32.ofInt a5)) → ev_lk w35 7 = some (ev_nv r2) → ev_lk w35 8 = some (.int (Int32.ofInt x34)) → ev_w none (ev_Mof 4) d 89 w35 [] s44 (jb_4_89 Q a1 a2 a3 a4 a5 r2  K89 x34 s44) ev_eU ev_PU := by
  intro x34 hx34 s44 w35 e36 e37 e38 e39 e40 e41 e42 e43
  unfold jb_4_89
  refine ev_r_iload (pc := 89) (k := 8) (v := Int32.ofInt x34) (by decide +kernel) (by exact e43) ?_
  refine ev_r_iload_n (pc := 91) (k := 3) (v := Int32.ofInt a2) (by decide +kernel) (by exact e38) ?_
  refine ev_r_icmp (pc := 92) (q := .ge) (o := 29) (t := 121) (c := a2 ≤ x34) (by decide +kernel) (ev_k_ge hx34 ha2) (by decide +kernel) ?_ ?_
  · intro c45
    refine ev_r_iconst (pc := 121) (k := 0) (by decide +kernel) ?_
    refine ev_r_istore (pc := 122) (k := 8) (by decide +kernel) (by decide +kernel) rfl ?_
    exact jlt_4_124 d hd Q a2 a3 a4 a5 ha2 ha3 ha4 ha5   Q 0 (by decide) s44 _ (by exact (ev_l1 e36 (by decide) (by decide))) (by exact (ev_l1 e38 (by decide) (by decide))) (by exact (ev_l1 e39 (by decide) (by decide))) (by exact (ev_l1 e40 (by decide) (by decide))) (by exact (ev_l1 e41 (by decide) (by decide))) (by exact ev_lk_st1_self)
  · intro c45
    refine ev_r_aload_n (pc := 95) (k := 0) (v := .ref 254) trivial (by decide +kernel) (by exact e36) ?_
    refine ev_r_aload_n (pc := 96) (k := 0) (v := .ref 254) trivial (by decide +kernel) (by exact e36) ?_
    refine ev_r_getI (pc := 97) (y := 82) (ci := 0) (f := 10) (fin := 0) (by decide +kernel) (by decide +kernel) (by exact ev_ob_254) rfl ?_
    intro x68 hx68
    refine ev_r_iload (pc := 100) (k := 8) (v := Int32.ofInt x34) (by decide +kernel) (by exact e43) ?_
    refine ev_r_iadd (pc := 102) (by decide +kernel) ?_
    intro x69 hx69
    refine ev_r_aload (pc := 103) (k := 7) (v := ev_nv r2) (ev_isR_nv _) (by decide +kernel) (by exact e42) ?_
    refine ev_r_iload_n (pc := 105) (k := 2) (v := Int32.ofInt a1) (by decide +kernel) (by exact e37) ?_
    refine ev_r_iload (pc := 106) (k := 8) (v := Int32.ofInt x34) (by decide +kernel) (by exact e43) ?_
    refine ev_r_iadd (pc := 108) (by decide +kernel) ?_
    intro x70 hx70
    refine ev_r_dr (r := r2) (fun v => [.int (Int32.ofInt x70), v, .int (Int32.ofInt x69), .ref 254]) c3 ?_
    refine ev_r_virt (pc := 109) (y := 85) (mi := 151) (na := 1) (k := (r2 - 1)) (as := [.int (Int32.ofInt x70)]) (rest := [.int (Int32.ofInt x69), .ref 254]) (encc := ev_oI) (Q := ev_rng) (fun x S1 h => jt_151 d (by omega) Q ((r2 - 1)) x70 (hr2.resolve_left c3) hx70 s44 x S1 h) (by exact (hr2.resolve_left c3)) (by decide +kernel) (by decide +kernel) (by decide +kernel) (by decide +kernel) rfl (by (try simp only [ev_sum, ev_nv_cat]); first | done | rfl) ?_
    intro x72 s71 hx72
    show ev_w _ _ _ _ _ [.int (Int32.ofInt x72), .int (Int32.ofInt x69), .ref 254] _ _ _ _
    refine ev_r_virt (pc := 112) (y := 89) (mi := 15) (na := 2) (k := 254) (as := [.int (Int32.ofInt x69), .int (Int32.ofInt x72)]) (rest := []) (encc := ev_oU) (Q := ev_PU) (fun x S1 h => jt_15 d (by omega) Q x69 x72 hx69 hx72 s71 x S1 h) (by exact ev_ob_254) (by decide +kernel) (by decide +kernel) (by decide +kernel) (by decide +kernel) rfl (by (try simp only [ev_sum, ev_nv_cat]); first | done | rfl) ?_
    intro _ s73 _
    show ev_w _ _ _ _ _ [] _ _ _ _
    refine ev_r_iinc (pc := 115) (k := 8) (c := 1) (x := x34) (by decide +kernel) (by decide +kernel) (by exact e43) (fun _ => rfl) ?_
    intro x74 hx74
    refine ev_r_goto (pc := 118) (o := (-29)) (t := 89) (by decide +kernel) (by decide +kernel) ?_
    exact hK89 x74 hx74 s73 _ (by exact (ev_l1 e36 (by decide) (by decide))) (by exact (ev_l1 e37 (by decide) (by decide))) (by exact (ev_l1 e38 (by decide) (by decide))) (by exact (ev_l1 e39 (by decide) (by decide))) (by exact (ev_l1 e40 (by decide) (by decide))) (by exact (ev_l1 e41 (by decide) (by decide))) (by exact (ev_lk_st1 e42 (by decide) (ev_nv_cat _))) (by exact ev_lk_st1_self)
theorem jlt_4_89 (d : Nat) (hd : 4 ≤ d + 1) (Q : Nat) (a1 : Int) (a2 : Int) (a3 : Nat) (a4 : Int) (a5 : Int) (r2 : Nat) (ha1 : ev_rng a1) (ha2 : ev_rng a2) (ha3 : a3 = 0 ∨ ev_isAb (a3 - 1) 1 .int = true) (ha4 : ev_rng a4) (ha5 : ev_rng a5) (hr2 : r2 = 0 ∨ ev_isOb (r2 - 1) 10 = true) (c3 : ¬ r2 = 0)   : ∀ q : Nat, ∀ (x34 : Int) (hx34 : ev_rng x34), ∀ (s44 : ev_St) (w35 : List (Nat × Value)), ev_lk w35 0 = some (.ref 254) → ev_lk w35 2 = some (.int (Int32.ofInt a1)) → ev_lk w35 3 = some (.int (Int32.ofInt a2)) → ev_lk w35 4 = some (ev_nv a3) → ev_lk w35 5 = some (.int (Int32.ofInt a4)) → ev_lk w35 6 = some (.int (Int32.ofInt a5)) → ev_lk w35 7 = some (ev_nv r2) → ev_lk w35 8 = some (.int (Int32.ofInt x34)) → ev_w none (ev_Mof 4) d 89 w35 [] s44 (jl_4_89 Q a1 a2 a3 a4 a5 r2  q x34 s44) ev_eU ev_PU := by
  intro q
  induction q with
  | zero =>
    intro x34 hx34 s44 w35 e36 e37 e38 e39 e40 e41 e42 e43
    exact ev_w_none
  | succ q ih => exact jbt_4_89 d hd Q a1 a2 a3 a4 a5 r2 ha1 ha2 ha3 ha4 ha5 hr2 c3   _ ih
/-- MendBench$Buffers.edit(III[III)V -/
def jm_4 (Q : Nat) (a0 : Int) (a1 : Int) (a2 : Int) (a3 : Nat) (a4 : Int) (a5 : Int) (S : ev_St) : Option ((Unit) × ev_St) := ev_bd (jm_1 Q a0 S) fun r2 s1 => if (r2 : Nat) = 0 then (some ((), s1)) else (if a2 < 0 then (some ((), s1)) else (if a5 < 0 then (some ((), s1)) else (if a4 < 0 then (some ((), s1)) else (ev_ck (a4 + a5) fun x7 => ev_if (a3 ≠ 0) (ev_b (ev_aln ((a3 - 1)) : Int) fun x9 => if x7 ≤ x9 then (ev_ck (a2 + a5) fun x11 => ev_bd (jm_11 Q x11 s1) fun x13 s12 => ev_jn (fun  (s23 : ev_St) => ev_b (s23.1 254 12) fun x24 => ev_b (ev_pI s23 254 13 x24) fun s25 => ev_b (s25.1 254 9) fun x26 => ev_ck (4 * a1) fun x27 => ev_ck (a0 + x27) fun x28 => ev_ck (1024 * a2) fun x29 => ev_ck (x28 + x29) fun x30 => ev_ck (262144 * a5) fun x31 => ev_ck (x30 + x31) fun x32 => ev_bd (jm_13 Q x26 x32 s25) fun _ s33 => jl_4_89 Q a1 a2 a3 a4 a5 r2  Q 0 s33) fun K53 => if x13 ≠ 0 then (K53  s12) else (ev_bd (jm_12 Q  s12) fun _ s76 => K53  s76)) else (some ((), s1)))))))
theorem jt_4 (d : Nat) (hd : 4 ≤ d) (Q : Nat) (a0 : Int) (a1 : Int) (a2 : Int) (a3 : Nat) (a4 : Int) (a5 : Int) (ha0 : ev_rng a0) (ha1 : ev_rng a1) (ha2 : ev_rng a2) (ha3 : a3 = 0 ∨ ev_isAb (a3 - 1) 1 .int = true) (ha4 : ev_rng a4) (ha5 : ev_rng a5) (S : ev_St) (x : Unit) (S' : ev_St) (hJ : jm_4 Q a0 a1 a2 a3 a4 a5 S = some (x, S')) : ev_Ref d 4 [.ref 254, .int (Int32.ofInt a0), .int (Int32.ofInt a1), .int (Int32.ofInt a2), ev_nv a3, .int (Int32.ofInt a4), .int (Int32.ofInt a5)] S (ev_eU x) S' (ev_PU x) := by
  obtain ⟨d, rfl⟩ : ∃ e, d = e + 1 := ⟨d - 1, by omega⟩
  refine ev_ref_of (P := ev_PU) (lv := [(0, .ref 254), (1, .int (Int32.ofInt a0)), (2, .int (Int32.ofInt a1)), (3, .int (Int32.ofInt a2)), (4, ev_nv a3), (5, .int (Int32.ofInt a4)), (6, .int (Int32.ofInt a5))]) (by decide +kernel) (by (try simp only [ev_sum, ev_nv_cat]); first | done | rfl) (by (try simp only [lv_args, ev_nv_cat]); first | done | rfl) ?_ x S' hJ
  unfold jm_4
  refine ev_r_aload_n (pc := 0) (k := 0) (v := .ref 254) trivial (by decide +kernel) (by rfl) ?_
  refine ev_r_iload_n (pc := 1) (k := 1) (v := Int32.ofInt a0) (by decide +kernel) (by rfl) ?_
  refine ev_r_virt (pc := 2) (y := 63) (mi := 1) (na := 1) (k := 254) (as := [.int (Int32.ofInt a0)]) (rest := []) (encc := ev_oR) (Q := (fun r => r = 0 ∨ ev_isOb (r - 1) 10 = true)) (fun x S1 h => jt_1 d (by omega) Q a0 ha0 S x S1 h) (by exact ev_ob_254) (by decide +kernel) (by decide +kernel) (by decide +kernel) (by decide +kernel) rfl (by (try simp only [ev_sum, ev_nv_cat]); first | done | rfl) ?_
  intro r2 s1 hr2
  show ev_w _ _ _ _ _ [ev_nv r2] _ _ _ _
  refine ev_r_astore (pc := 5) (k := 7) (ev_isR_nv _) (by decide +kernel) (by decide +kernel) rfl ?_
  refine ev_r_aload (pc := 7) (k := 7) (v := ev_nv r2) (ev_isR_nv _) (by decide +kernel) (by exact ev_lk_st1_self) ?_
  refine ev_r_ifnull (pc := 9) (r := r2) (o := 28) (t := 37) (by decide +kernel) (by decide +kernel) ?_ ?_
  · intro c3
    exact ev_r_return (pc := 37) (x := ()) trivial (by decide +kernel) (by decide +kernel) rfl
  · intro c3
    refine ev_r_iload_n (pc := 12) (k := 3) (v := Int32.ofInt a2) (by decide +kernel) (by exact (ev_l1 (by rfl) (by decide) (by decide))) ?_
    refine ev_r_if (pc := 13) (q := .lt) (o := 24) (t := 37) (c := a2 < 0) (by decide +kernel) (ev_k_lt ha2 ev_rng0) (by decide +kernel) ?_ ?_
    · intro c4
      exact ev_r_return (pc := 37) (x := ()) trivial (by decide +kernel) (by decide +kernel) rfl
    · intro c4
      refine ev_r_iload (pc := 16) (k := 6) (v := Int32.ofInt a5) (by decide +kernel) (by exact (ev_lk_st1 (by rfl) (by decide) rfl)) ?_
      refine ev_r_if (pc := 18) (q := .lt) (o := 19) (t := 37) (c := a5 < 0) (by decide +kernel) (ev_k_lt ha5 ev_rng0) (by decide +kernel) ?_ ?_
      · intro c5
        exact ev_r_return (pc := 37) (x := ()) trivial (by decide +kernel) (by decide +kernel) rfl
      · intro c5
        refine ev_r_iload (pc := 21) (k := 5) (v := Int32.ofInt a4) (by decide +kernel) (by exact (ev_l1 (by rfl) (by decide) (by decide))) ?_
        refine ev_r_if (pc := 23) (q := .lt) (o := 14) (t := 37) (c := a4 < 0) (by decide +kernel) (ev_k_lt ha4 ev_rng0) (by decide +kernel) ?_ ?_
        · intro c6
          exact ev_r_return (pc := 37) (x := ()) trivial (by decide +kernel) (by decide +kernel) rfl
        · intro c6
          refine ev_r_iload (pc := 26) (k := 5) (v := Int32.ofInt a4) (by decide +kernel) (by exact (ev_l1 (by rfl) (by decide) (by decide))) ?_
          refine ev_r_iload (pc := 28) (k := 6) (v := Int32.ofInt a5) (by decide +kernel) (by exact (ev_lk_st1 (by rfl) (by decide) rfl)) ?_
          refine ev_r_iadd (pc := 30) (by decide +kernel) ?_
          intro x7 hx7
          refine ev_r_aload (pc := 31) (k := 4) (v := ev_nv a3) (ev_isR_nv _) (by decide +kernel) (by exact (ev_l1 (by rfl) (by decide) (by decide))) ?_
          refine ev_r_chk ?_
          intro c8
          refine ev_r_dr (r := a3) (fun v => [v, .int (Int32.ofInt x7)]) c8 ?_
          refine ev_r_alen (pc := 33) (kd := 1) (ty := .int) (Or.inl rfl) (by decide +kernel) (by exact (ha3.resolve_left c8)) ?_
          intro x9 hx9
          refine ev_r_icmp (pc := 34) (q := .le) (o := 4) (t := 38) (c := x7 ≤ x9) (by decide +kernel) (ev_k_le hx7 hx9) (by decide +kernel) ?_ ?_
          · intro c10
            refine ev_r_aload_n (pc := 38) (k := 0) (v := .ref 254) trivial (by decide +kernel) (by exact (ev_l1 (by rfl) (by decide) (by decide))) ?_
            refine ev_r_iload_n (pc := 39) (k := 3) (v := Int32.ofInt a2) (by decide +kernel) (by exact (ev_l1 (by rfl) (by decide) (by decide))) ?_
            refine ev_r_iload (pc := 40) (k := 6) (v := Int32.ofInt a5) (by decide +kernel) (by exact (ev_lk_st1 (by rfl) (by decide) rfl)) ?_
            refine ev_r_iadd (pc := 42) (by decide +kernel) ?_
            intro x11 hx11
            refine ev_r_virt (pc := 43) (y := 67) (mi := 11) (na := 1) (k := 254) (as := [.int (Int32.ofInt x11)]) (rest := []) (encc := ev_oI) (Q := ev_bl) (fun x S1 h => jt_11 d (by omega) Q x11 hx11 s1 x S1 h) (by exact ev_ob_254) (by decide +kernel) (by decide +kernel) (by decide +kernel) (by decide +kernel) rfl (by (try simp only [ev_sum, ev_nv_cat]); first | done | rfl) ?_
            intro x13 s12 hx13
            replace hx13 := ev_bl_rng hx13
            show ev_w _ _ _ _ _ [.int (Int32.ofInt x13)] _ _ _ _
            refine ev_r_jn (Q := fun K => ∀ (s23 : ev_St) (w14 : List (Nat × Value)), ev_lk w14 0 = some (.ref 254) → ev_lk w14 1 = some (.int (Int32.ofInt a0)) → ev_lk w14 2 = some (.int (Int32.ofInt a1)) → ev_lk w14 3 = some (.int (Int32.ofInt a2)) → ev_lk w14 4 = some (ev_nv a3) → ev_lk w14 5 = some (.int (Int32.ofInt a4)) → ev_lk w14 6 = some (.int (Int32.ofInt a5)) → ev_lk w14 7 = some (ev_nv r2) → ev_w none (ev_Mof 4) d 53 w14 [] s23 (K  s23) ev_eU ev_PU) ?_ ?_
            · intro  s23 w14 e15 e16 e17 e18 e19 e20 e21 e22
              refine ev_r_aload_n (pc := 53) (k := 0) (v := .ref 254) trivial (by decide +kernel) (by exact e15) ?_
              refine ev_r_aload_n (pc := 54) (k := 0) (v := .ref 254) trivial (by decide +kernel) (by exact e15) ?_
              refine ev_r_getI (pc := 55) (y := 57) (ci := 0) (f := 12) (fin := 0) (by decide +kernel) (by decide +kernel) (by exact ev_ob_254) rfl ?_
              intro x24 hx24
              refine ev_r_putI (pc := 58) (y := 60) (ci := 0) (f := 13) hx24 (by decide +kernel) (by decide +kernel) (by exact ev_ob_254) rfl rfl ?_
              intro s25
              refine ev_r_aload_n (pc := 61) (k := 0) (v := .ref 254) trivial (by decide +kernel) (by exact e15) ?_
              refine ev_r_aload_n (pc := 62) (k := 0) (v := .ref 254) trivial (by decide +kernel) (by exact e15) ?_
              refine ev_r_getI (pc := 63) (y := 74) (ci := 0) (f := 9) (fin := 0) (by decide +kernel) (by decide +kernel) (by exact ev_ob_254) rfl ?_
              intro x26 hx26
              refine ev_r_iload_n (pc := 66) (k := 1) (v := Int32.ofInt a0) (by decide +kernel) (by exact e16) ?_
              refine ev_r_iconst (pc := 67) (k := 4) (by decide +kernel) ?_
              refine ev_r_iload_n (pc := 68) (k := 2) (v := Int32.ofInt a1) (by decide +kernel) (by exact e17) ?_
              refine ev_r_imul (pc := 69) (by decide +kernel) ?_
              intro x27 hx27
              refine ev_r_iadd (pc := 70) (by decide +kernel) ?_
              intro x28 hx28
              refine ev_r_sipush (pc := 71) (k := 1024) (by decide +kernel) (by decide +kernel) ?_
              refine ev_r_iload_n (pc := 74) (k := 3) (v := Int32.ofInt a2) (by decide +kernel) (by exact e18) ?_
              refine ev_r_imul (pc := 75) (by decide +kernel) ?_
              intro x29 hx29
              refine ev_r_iadd (pc := 76) (by decide +kernel) ?_
              intro x30 hx30
              refine ev_r_ldc (pc := 77) (y := 77) (k := 262144) (by decide +kernel) (by decide +kernel) ?_
              refine ev_r_iload (pc := 79) (k := 6) (v := Int32.ofInt a5) (by decide +kernel) (by exact e21) ?_
              refine ev_r_imul (pc := 81) (by decide +kernel) ?_
              intro x31 hx31
              refine ev_r_iadd (pc := 82) (by decide +kernel) ?_
              intro x32 hx32
              refine ev_r_virt (pc := 83) (y := 78) (mi := 13) (na := 2) (k := 254) (as := [.int (Int32.ofInt x26), .int (Int32.ofInt x32)]) (rest := []) (encc := ev_oU) (Q := ev_PU) (fun x S1 h => jt_13 d (by omega) Q x26 x32 hx26 hx32 s25 x S1 h) (by exact ev_ob_254) (by decide +kernel) (by decide +kernel) (by decide +kernel) (by decide +kernel) rfl (by (try simp only [ev_sum, ev_nv_cat]); first | done | rfl) ?_
              intro _ s33 _
              show ev_w _ _ _ _ _ [] _ _ _ _
              refine ev_r_iconst (pc := 86) (k := 0) (by decide +kernel) ?_
              refine ev_r_istore (pc := 87) (k := 8) (by decide +kernel) (by decide +kernel) rfl ?_
              exact jlt_4_89 d hd Q a1 a2 a3 a4 a5 r2 ha1 ha2 ha3 ha4 ha5 hr2 c3   Q 0 (by decide) s33 _ (by exact (ev_l1 e15 (by decide) (by decide))) (by exact (ev_l1 e17 (by decide) (by decide))) (by exact (ev_l1 e18 (by decide) (by decide))) (by exact (ev_l1 e19 (by decide) (by decide))) (by exact (ev_l1 e20 (by decide) (by decide))) (by exact (ev_l1 e21 (by decide) (by decide))) (by exact (ev_lk_st1 e22 (by decide) (ev_nv_cat _))) (by exact ev_lk_st1_self)
            · intro K53 hK53
              refine ev_r_if (pc := 46) (q := .ne) (o := 7) (t := 53) (c := x13 ≠ 0) (by decide +kernel) (ev_k_ne hx13 ev_rng0) (by decide +kernel) ?_ ?_
              · intro c75
                exact hK53  s12 _ (by exact (ev_l1 (by rfl) (by decide) (by decide))) (by exact (ev_l1 (by rfl) (by decide) (by decide))) (by exact (ev_l1 (by rfl) (by decide) (by decide))) (by exact (ev_l1 (by rfl) (by decide) (by decide))) (by exact (ev_l1 (by rfl) (by decide) (by decide))) (by exact (ev_l1 (by rfl) (by decide) (by decide))) (by exact (ev_lk_st1 (by rfl) (by decide) rfl)) (by exact ev_lk_st1_self)
              · intro c75
                refine ev_r_aload_n (pc := 49) (k := 0) (v := .ref 254) trivial (by decide +kernel) (by exact (ev_l1 (by rfl) (by decide) (by decide))) ?_
                refine ev_r_virt (pc := 50) (y := 71) (mi := 12) (na := 0) (k := 254) (as := []) (rest := []) (encc := ev_oU) (Q := ev_PU) (fun x S1 h => jt_12 d (by omega) Q   s12 x S1 h) (by exact ev_ob_254) (by decide +kernel) (by decide +kernel) (by decide +kernel) (by decide +kernel) rfl (by (try simp only [ev_sum, ev_nv_cat]); first | done | rfl) ?_
                intro _ s76 _
                show ev_w _ _ _ _ _ [] _ _ _ _
                exact hK53  s76 _ (by exact (ev_l1 (by rfl) (by decide) (by decide))) (by exact (ev_l1 (by rfl) (by decide) (by decide))) (by exact (ev_l1 (by rfl) (by decide) (by decide))) (by exact (ev_l1 (by rfl) (by decide) (by decide))) (by exact (ev_l1 (by rfl) (by decide) (by decide))) (by exact (ev_l1 (by rfl) (by decide) (by decide))) (by exact (ev_lk_st1 (by rfl) (by decide) rfl)) (by exact ev_lk_st1_self)
          · intro c10
            exact ev_r_return (pc := 37) (x := ()) trivial (by decide +kernel) (by decide +kernel) rfl
/-- MendBench$Buffers.undoEdit()V -/
def jm_8 (Q : Nat)  (S : ev_St) : Option ((Unit) × ev_St) := ev_b (S.1 254 9) fun x1 => ev_ck (x1 - 1) fun x2 => ev_b (ev_pI S 254 9 x2) fun s3 => ev_b (s3.1 254 9) fun x4 => ev_bd (jm_14 Q x4 s3) fun x6 s5 => ev_if (1024 ≠ 0) (ev_b (ev_idiv x6 1024) fun x7 => ev_if (256 ≠ 0) (ev_b (ev_irem x7 256) fun x8 => ev_if (262144 ≠ 0) (ev_b (ev_idiv x6 262144) fun x9 => ev_b (s5.1 254 10) fun x10 => ev_ck (x8 + x9) fun x11 => ev_ck (x10 - x11) fun x12 => ev_b (ev_pI s5 254 10 x12) fun s13 => ev_b (s13.1 254 10) fun x14 => ev_bd (jm_9 Q x6 x9 x8 x14 s13) fun _ s15 => some ((), s15))))
theorem jt_8 (d : Nat) (hd : 3 ≤ d) (Q : Nat)   (S : ev_St) (x : Unit) (S' : ev_St) (hJ : jm_8 Q  S = some (x, S')) : ev_Ref d 8 [.ref 254] S (ev_eU x) S' (ev_PU x) := by
  obtain ⟨d, rfl⟩ : ∃ e, d = e + 1 := ⟨d - 1, by omega⟩
  refine ev_ref_of (P := ev_PU) (lv := [(0, .ref 254)]) (by decide +kernel) (by (try simp only [ev_sum, ev_nv_cat]); first | done | rfl) (by (try simp only [lv_args, ev_nv_cat]); first | done | rfl) ?_ x S' hJ
  unfold jm_8
  refine ev_r_aload_n (pc := 0) (k := 0) (v := .ref 254) trivial (by decide +kernel) (by rfl) ?_
  refine ev_r_dup (pc := 1) rfl (by decide +kernel) ?_
  refine ev_r_getI (pc := 2) (y := 74) (ci := 0) (f := 9) (fin := 0) (by decide +kernel) (by decide +kernel) (by exact ev_ob_254) rfl ?_
  intro x1 hx1
  refine ev_r_iconst (pc := 5) (k := 1) (by decide +kernel) ?_
  refine ev_r_isub (pc := 6) (by decide +kernel) ?_
  intro x2 hx2
  refine ev_r_putI (pc := 7) (y := 74) (ci := 0) (f := 9) hx2 (by decide +kernel) (by decide +kernel) (by exact ev_ob_254) rfl rfl ?_
  intro s3
  refine ev_r_aload_n (pc := 10) (k := 0) (v := .ref 254) trivial (by decide +kernel) (by rfl) ?_
  refine ev_r_aload_n (pc := 11) (k := 0) (v := .ref 254) trivial (by decide +kernel) (by rfl) ?_
  refine ev_r_getI (pc := 12) (y := 74) (ci := 0) (f := 9) (fin := 0) (by decide +kernel) (by decide +kernel) (by exact ev_ob_254) rfl ?_
  intro x4 hx4
  refine ev_r_virt (pc := 15) (y := 98) (mi := 14) (na := 1) (k := 254) (as := [.int (Int32.ofInt x4)]) (rest := []) (encc := ev_oI) (Q := ev_rng) (fun x S1 h => jt_14 d (by omega) Q x4 hx4 s3 x S1 h) (by exact ev_ob_254) (by decide +kernel) (by decide +kernel) (by decide +kernel) (by decide +kernel) rfl (by (try simp only [ev_sum, ev_nv_cat]); first | done | rfl) ?_
  intro x6 s5 hx6
  show ev_w _ _ _ _ _ [.int (Int32.ofInt x6)] _ _ _ _
  refine ev_r_istore_n (pc := 18) (k := 1) (by decide +kernel) (by decide +kernel) rfl ?_
  refine ev_r_iload_n (pc := 19) (k := 1) (v := Int32.ofInt x6) (by decide +kernel) (by exact ev_lk_st1_self) ?_
  refine ev_r_sipush (pc := 20) (k := 1024) (by decide +kernel) (by decide +kernel) ?_
  refine ev_r_idiv (pc := 23) (by decide) (by decide +kernel) ?_
  intro x7 hx7
  refine ev_r_sipush (pc := 24) (k := 256) (by decide +kernel) (by decide +kernel) ?_
  refine ev_r_irem (pc := 27) (by decide) (by decide +kernel) ?_
  intro x8 hx8
  refine ev_r_istore_n (pc := 28) (k := 2) (by decide +kernel) (by decide +kernel) rfl ?_
  refine ev_r_iload_n (pc := 29) (k := 1) (v := Int32.ofInt x6) (by decide +kernel) (by exact (ev_lk_st1 ev_lk_st1_self (by decide) rfl)) ?_
  refine ev_r_ldc (pc := 30) (y := 77) (k := 262144) (by decide +kernel) (by decide +kernel) ?_
  refine ev_r_idiv (pc := 32) (by decide) (by decide +kernel) ?_
  intro x9 hx9
  refine ev_r_istore_n (pc := 33) (k := 3) (by decide +kernel) (by decide +kernel) rfl ?_
  refine ev_r_aload_n (pc := 34) (k := 0) (v := .ref 254) trivial (by decide +kernel) (by exact (ev_l1 (ev_l1 (ev_lk_st1 (by rfl) (by decide) rfl) (by decide) (by decide)) (by decide) (by decide))) ?_
  refine ev_r_dup (pc := 35) rfl (by decide +kernel) ?_
  refine ev_r_getI (pc := 36) (y := 82) (ci := 0) (f := 10) (fin := 0) (by decide +kernel) (by decide +kernel) (by exact ev_ob_254) rfl ?_
  intro x10 hx10
  refine ev_r_iload_n (pc := 39) (k := 2) (v := Int32.ofInt x8) (by decide +kernel) (by exact (ev_lk_st1 ev_lk_st1_self (by decide) rfl)) ?_
  refine ev_r_iload_n (pc := 40) (k := 3) (v := Int32.ofInt x9) (by decide +kernel) (by exact ev_lk_st1_self) ?_
  refine ev_r_iadd (pc := 41) (by decide +kernel) ?_
  intro x11 hx11
  refine ev_r_isub (pc := 42) (by decide +kernel) ?_
  intro x12 hx12
  refine ev_r_putI (pc := 43) (y := 82) (ci := 0) (f := 10) hx12 (by decide +kernel) (by decide +kernel) (by exact ev_ob_254) rfl rfl ?_
  intro s13
  refine ev_r_aload_n (pc := 46) (k := 0) (v := .ref 254) trivial (by decide +kernel) (by exact (ev_l1 (ev_l1 (ev_lk_st1 (by rfl) (by decide) rfl) (by decide) (by decide)) (by decide) (by decide))) ?_
  refine ev_r_iload_n (pc := 47) (k := 1) (v := Int32.ofInt x6) (by decide +kernel) (by exact (ev_l1 (ev_lk_st1 ev_lk_st1_self (by decide) rfl) (by decide) (by decide))) ?_
  refine ev_r_iload_n (pc := 48) (k := 3) (v := Int32.ofInt x9) (by decide +kernel) (by exact ev_lk_st1_self) ?_
  refine ev_r_iload_n (pc := 49) (k := 2) (v := Int32.ofInt x8) (by decide +kernel) (by exact (ev_lk_st1 ev_lk_st1_self (by decide) rfl)) ?_
  refine ev_r_aload_n (pc := 50) (k := 0) (v := .ref 254) trivial (by decide +kernel) (by exact (ev_l1 (ev_l1 (ev_lk_st1 (by rfl) (by decide) rfl) (by decide) (by decide)) (by decide) (by decide))) ?_
  refine ev_r_getI (pc := 51) (y := 82) (ci := 0) (f := 10) (fin := 0) (by decide +kernel) (by decide +kernel) (by exact ev_ob_254) rfl ?_
  intro x14 hx14
  refine ev_r_virt (pc := 54) (y := 101) (mi := 9) (na := 4) (k := 254) (as := [.int (Int32.ofInt x6), .int (Int32.ofInt x9), .int (Int32.ofInt x8), .int (Int32.ofInt x14)]) (rest := []) (encc := ev_oU) (Q := ev_PU) (fun x S1 h => jt_9 d (by omega) Q x6 x9 x8 x14 hx6 hx9 hx8 hx14 s13 x S1 h) (by exact ev_ob_254) (by decide +kernel) (by decide +kernel) (by decide +kernel) (by decide +kernel) rfl (by (try simp only [ev_sum, ev_nv_cat]); first | done | rfl) ?_
  intro _ s15 _
  show ev_w _ _ _ _ _ [] _ _ _ _
  exact ev_r_return (pc := 57) (x := ()) trivial (by decide +kernel) (by decide +kernel) rfl
def jb_5_31 (Q : Nat)   (K31 : Int → ev_St → Option ((Int) × ev_St)) (x8 : Int) (s12 : ev_St) : Option ((Int) × ev_St) := ev_b (s12.1 254 12) fun x13 => ev_if ((0 : Int) ≤ x13 ∧ x13 < (ev_aln 261 : Int)) (ev_b (s12.1 261 (Int.toNat x13)) fun x14 => if x14 ≤ x8 then (ev_b (s12.1 254 12) fun x16 => ev_if ((0 : Int) ≤ x16 ∧ x16 < (ev_aln 261 : Int)) (ev_b (s12.1 261 (Int.toNat x16)) fun x17 => some (x17, s12))) else (ev_bd (jm_8 Q  s12) fun _ s18 => ev_ck (x8 + 1) fun x19 => K31 x19 s18))
def jl_5_31 (Q : Nat)   : Nat → Int → ev_St → Option ((Int) × ev_St)
  | 0 => fun _ _ => none
  | q + 1 => jb_5_31 Q   (jl_5_31 Q   q)
theorem jbt_5_31 (d : Nat) (hd : 4 ≤ d + 1) (Q : Nat)     (K31 : Int → ev_St → Option ((Int) × ev_St)) (hK31 : ∀ (x8 : Int) (hx8 : ev_rng x8), ∀ (s12 : ev_St) (w9 : List (Nat × Value)), ev_lk w9 0 = some (.ref 254) → ev_lk w9 1 = some (.int (Int32.ofInt x8)) → ev_w none (ev_Mof 5) d 31 w9 [] s12 (K31 x8 s12) ev_eI ev_rng) : ∀ (x8 : Int) (hx8 : ev_rng x8), ∀ (s12 : ev_St) (w9 : List (Nat × Value)), ev_lk w9 0 = some (.ref 254) → ev_lk w9 1 = some (.int (Int32.ofInt x8)) → ev_w none (ev_Mof 5) d 31 w9 [] s12 (jb_5_31 Q   K31 x8 s12) ev_eI ev_rng := by
  intro x8 hx8 s12 w9 e10 e11
  unfold jb_5_31
  refine ev_r_iload_n (pc := 31) (k := 1) (v := Int32.ofInt x8) (by decide +kernel) (by exact e11) ?_
  refine ev_r_aload_n (pc := 32) (k := 0) (v := .ref 254) trivial (by decide +kernel) (by exact e10) ?_
  refine ev_r_getC (pc := 33) (y := 39) (ci := 0) (f := 7) (fin := 1) (k' := 261) (by decide +kernel) (by decide +kernel) (by exact ev_ob_254) rfl rfl ?_
  refine ev_r_aload_n (pc := 36) (k := 0) (v := .ref 254) trivial (by decide +kernel) (by exact e10) ?_
  refine ev_r_getI (pc := 37) (y := 57) (ci := 0) (f := 12) (fin := 0) (by decide +kernel) (by decide +kernel) (by exact ev_ob_254) rfl ?_
  intro x13 hx13
  refine ev_r_iald (pc := 40) hx13 (by decide +kernel) (by exact ev_ab_261) ?_
  intro x14 hx14
  refine ev_r_icmp (pc := 41) (q := .ge) (o := 13) (t := 54) (c := x14 ≤ x8) (by decide +kernel) (ev_k_ge hx8 hx14) (by decide +kernel) ?_ ?_
  · intro c15
    refine ev_r_aload_n (pc := 54) (k := 0) (v := .ref 254) trivial (by decide +kernel) (by exact e10) ?_
    refine ev_r_getC (pc := 55) (y := 39) (ci := 0) (f := 7) (fin := 1) (k' := 261) (by decide +kernel) (by decide +kernel) (by exact ev_ob_254) rfl rfl ?_
    refine ev_r_aload_n (pc := 58) (k := 0) (v := .ref 254) trivial (by decide +kernel) (by exact e10) ?_
    refine ev_r_getI (pc := 59) (y := 57) (ci := 0) (f := 12) (fin := 0) (by decide +kernel) (by decide +kernel) (by exact ev_ob_254) rfl ?_
    intro x16 hx16
    refine ev_r_iald (pc := 62) hx16 (by decide +kernel) (by exact ev_ab_261) ?_
    intro x17 hx17
    exact ev_r_ireturn (pc := 63) (x := x17) (v := Int32.ofInt x17) (ty := .int) hx17 (by decide +kernel) (by decide +kernel) rfl rfl
  · intro c15
    refine ev_r_aload_n (pc := 44) (k := 0) (v := .ref 254) trivial (by decide +kernel) (by exact e10) ?_
    refine ev_r_virt (pc := 45) (y := 95) (mi := 8) (na := 0) (k := 254) (as := []) (rest := []) (encc := ev_oU) (Q := ev_PU) (fun x S1 h => jt_8 d (by omega) Q   s12 x S1 h) (by exact ev_ob_254) (by decide +kernel) (by decide +kernel) (by decide +kernel) (by decide +kernel) rfl (by (try simp only [ev_sum, ev_nv_cat]); first | done | rfl) ?_
    intro _ s18 _
    show ev_w _ _ _ _ _ [] _ _ _ _
    refine ev_r_iinc (pc := 48) (k := 1) (c := 1) (x := x8) (by decide +kernel) (by decide +kernel) (by exact e11) (fun _ => rfl) ?_
    intro x19 hx19
    refine ev_r_goto (pc := 51) (o := (-20)) (t := 31) (by decide +kernel) (by decide +kernel) ?_
    exact hK31 x19 hx19 s18 _ (by exact (ev_lk_st1 e10 (by decide) rfl)) (by exact ev_lk_st1_self)
theorem jlt_5_31 (d : Nat) (hd : 4 ≤ d + 1) (Q : Nat)     : ∀ q : Nat, ∀ (x8 : Int) (hx8 : ev_rng x8), ∀ (s12 : ev_St) (w9 : List (Nat × Value)), ev_lk w9 0 = some (.ref 254) → ev_lk w9 1 = some (.int (Int32.ofInt x8)) → ev_w none (ev_Mof 5) d 31 w9 [] s12 (jl_5_31 Q   q x8 s12) ev_eI ev_rng := by
  intro q
  induction q with
  | zero =>
    intro x8 hx8 s12 w9 e10 e11
    exact ev_w_none
  | succ q ih => exact jbt_5_31 d hd Q     _ ih
/-- MendBench$Buffers.undoGroup()I -/
def jm_5 (Q : Nat)  (S : ev_St) : Option ((Int) × ev_St) := ev_b (S.1 254 12) fun x1 => if x1 ≤ 0 then (some (0, S)) else (ev_b (S.1 254 12) fun x3 => if x3 ≤ 1024 then (ev_b (S.1 254 12) fun x5 => ev_ck (x5 - 1) fun x6 => ev_b (ev_pI S 254 12 x6) fun s7 => jl_5_31 Q   Q 0 s7) else (some (0, S)))
theorem jt_5 (d : Nat) (hd : 4 ≤ d) (Q : Nat)   (S : ev_St) (x : Int) (S' : ev_St) (hJ : jm_5 Q  S = some (x, S')) : ev_Ref d 5 [.ref 254] S (ev_eI x) S' (ev_rng x) := by
  obtain ⟨d, rfl⟩ : ∃ e, d = e + 1 := ⟨d - 1, by omega⟩
  refine ev_ref_of (P := ev_rng) (lv := [(0, .ref 254)]) (by decide +kernel) (by (try simp only [ev_sum, ev_nv_cat]); first | done | rfl) (by (try simp only [lv_args, ev_nv_cat]); first | done | rfl) ?_ x S' hJ
  unfold jm_5
  refine ev_r_aload_n (pc := 0) (k := 0) (v := .ref 254) trivial (by decide +kernel) (by rfl) ?_
  refine ev_r_getI (pc := 1) (y := 57) (ci := 0) (f := 12) (fin := 0) (by decide +kernel) (by decide +kernel) (by exact ev_ob_254) rfl ?_
  intro x1 hx1
  refine ev_r_if (pc := 4) (q := .le) (o := 13) (t := 17) (c := x1 ≤ 0) (by decide +kernel) (ev_k_le hx1 ev_rng0) (by decide +kernel) ?_ ?_
  · intro c2
    refine ev_r_iconst (pc := 17) (k := 0) (by decide +kernel) ?_
    exact ev_r_ireturn (pc := 18) (x := 0) (v := Int32.ofInt 0) (ty := .int) (by decide) (by decide +kernel) (by decide +kernel) rfl rfl
  · intro c2
    refine ev_r_aload_n (pc := 7) (k := 0) (v := .ref 254) trivial (by decide +kernel) (by rfl) ?_
    refine ev_r_getI (pc := 8) (y := 57) (ci := 0) (f := 12) (fin := 0) (by decide +kernel) (by decide +kernel) (by exact ev_ob_254) rfl ?_
    intro x3 hx3
    refine ev_r_sipush (pc := 11) (k := 1024) (by decide +kernel) (by decide +kernel) ?_
    refine ev_r_icmp (pc := 14) (q := .le) (o := 5) (t := 19) (c := x3 ≤ 1024) (by decide +kernel) (ev_k_le hx3 (by decide)) (by decide +kernel) ?_ ?_
    · intro c4
      refine ev_r_aload_n (pc := 19) (k := 0) (v := .ref 254) trivial (by decide +kernel) (by rfl) ?_
      refine ev_r_dup (pc := 20) rfl (by decide +kernel) ?_
      refine ev_r_getI (pc := 21) (y := 57) (ci := 0) (f := 12) (fin := 0) (by decide +kernel) (by decide +kernel) (by exact ev_ob_254) rfl ?_
      intro x5 hx5
      refine ev_r_iconst (pc := 24) (k := 1) (by decide +kernel) ?_
      refine ev_r_isub (pc := 25) (by decide +kernel) ?_
      intro x6 hx6
      refine ev_r_putI (pc := 26) (y := 57) (ci := 0) (f := 12) hx6 (by decide +kernel) (by decide +kernel) (by exact ev_ob_254) rfl rfl ?_
      intro s7
      refine ev_r_iconst (pc := 29) (k := 0) (by decide +kernel) ?_
      refine ev_r_istore_n (pc := 30) (k := 1) (by decide +kernel) (by decide +kernel) rfl ?_
      exact jlt_5_31 d hd Q     Q 0 (by decide) s7 _ (by exact (ev_lk_st1 (by rfl) (by decide) rfl)) (by exact ev_lk_st1_self)
    · intro c4
      refine ev_r_iconst (pc := 17) (k := 0) (by decide +kernel) ?_
      exact ev_r_ireturn (pc := 18) (x := 0) (v := Int32.ofInt 0) (ty := .int) (by decide) (by decide +kernel) (by decide +kernel) rfl rfl
def jb_6_21 (Q : Nat)   (K21 : Int → ev_St → Option ((Int) × ev_St)) (x5 : Int) (s9 : ev_St) : Option ((Int) × ev_St) := ev_b (s9.1 254 12) fun x10 => ev_if ((0 : Int) ≤ x10 ∧ x10 < (ev_aln 261 : Int)) (ev_b (s9.1 261 (Int.toNat x10)) fun x11 => if x11 ≤ x5 then (ev_b (s9.1 254 12) fun x13 => ev_ck (x13 + 1) fun x14 => ev_b (ev_pI s9 254 12 x14) fun s15 => ev_b (s15.1 254 12) fun x16 => ev_ck (x16 - 1) fun x17 => ev_if ((0 : Int) ≤ x17 ∧ x17 < (ev_aln 261 : Int)) (ev_b (s15.1 261 (Int.toNat x17)) fun x18 => some (x18, s15))) else (ev_bd (jm_7 Q  s9) fun _ s19 => ev_ck (x5 + 1) fun x20 => K21 x20 s19))
def jl_6_21 (Q : Nat)   : Nat → Int → ev_St → Option ((Int) × ev_St)
  | 0 => fun _ _ => none
  | q + 1 => jb_6_21 Q   (jl_6_21 Q   q)
theorem jbt_6_21 (d : Nat) (hd : 4 ≤ d + 1) (Q : Nat)     (K21 : Int → ev_St → Option ((Int) × ev_St)) (hK21 : ∀ (x5 : Int) (hx5 : ev_rng x5), ∀ (s9 : ev_St) (w6 : List (Nat × Value)), ev_lk w6 0 = some (.ref 254) → ev_lk w6 1 = some (.int (Int32.ofInt x5)) → ev_w none (ev_Mof 6) d 21 w6 [] s9 (K21 x5 s9) ev_eI ev_rng) : ∀ (x5 : Int) (hx5 : ev_rng x5), ∀ (s9 : ev_St) (w6 : List (Nat × Value)), ev_lk w6 0 = some (.ref 254) → ev_lk w6 1 = some (.int (Int32.ofInt x5)) → ev_w none (ev_Mof 6) d 21 w6 [] s9 (jb_6_21 Q   K21 x5 s9) ev_eI ev_rng := by
  intro x5 hx5 s9 w6 e7 e8
  unfold jb_6_21
  refine ev_r_iload_n (pc := 21) (k := 1) (v := Int32.ofInt x5) (by decide +kernel) (by exact e8) ?_
  refine ev_r_aload_n (pc := 22) (k := 0) (v := .ref 254) trivial (by decide +kernel) (by exact e7) ?_
  refine ev_r_getC (pc := 23) (y := 39) (ci := 0) (f := 7) (fin := 1) (k' := 261) (by decide +kernel) (by decide +kernel) (by exact ev_ob_254) rfl rfl ?_
  refine ev_r_aload_n (pc := 26) (k := 0) (v := .ref 254) trivial (by decide +kernel) (by exact e7) ?_
  refine ev_r_getI (pc := 27) (y := 57) (ci := 0) (f := 12) (fin := 0) (by decide +kernel) (by decide +kernel) (by exact ev_ob_254) rfl ?_
  intro x10 hx10
  refine ev_r_iald (pc := 30) hx10 (by decide +kernel) (by exact ev_ab_261) ?_
  intro x11 hx11
  refine ev_r_icmp (pc := 31) (q := .ge) (o := 13) (t := 44) (c := x11 ≤ x5) (by decide +kernel) (ev_k_ge hx5 hx11) (by decide +kernel) ?_ ?_
  · intro c12
    refine ev_r_aload_n (pc := 44) (k := 0) (v := .ref 254) trivial (by decide +kernel) (by exact e7) ?_
    refine ev_r_dup (pc := 45) rfl (by decide +kernel) ?_
    refine ev_r_getI (pc := 46) (y := 57) (ci := 0) (f := 12) (fin := 0) (by decide +kernel) (by decide +kernel) (by exact ev_ob_254) rfl ?_
    intro x13 hx13
    refine ev_r_iconst (pc := 49) (k := 1) (by decide +kernel) ?_
    refine ev_r_iadd (pc := 50) (by decide +kernel) ?_
    intro x14 hx14
    refine ev_r_putI (pc := 51) (y := 57) (ci := 0) (f := 12) hx14 (by decide +kernel) (by decide +kernel) (by exact ev_ob_254) rfl rfl ?_
    intro s15
    refine ev_r_aload_n (pc := 54) (k := 0) (v := .ref 254) trivial (by decide +kernel) (by exact e7) ?_
    refine ev_r_getC (pc := 55) (y := 39) (ci := 0) (f := 7) (fin := 1) (k' := 261) (by decide +kernel) (by decide +kernel) (by exact ev_ob_254) rfl rfl ?_
    refine ev_r_aload_n (pc := 58) (k := 0) (v := .ref 254) trivial (by decide +kernel) (by exact e7) ?_
    refine ev_r_getI (pc := 59) (y := 57) (ci := 0) (f := 12) (fin := 0) (by decide +kernel) (by decide +kernel) (by exact ev_ob_254) rfl ?_
    intro x16 hx16
    refine ev_r_iconst (pc := 62) (k := 1) (by decide +kernel) ?_
    refine ev_r_isub (pc := 63) (by decide +kernel) ?_
    intro x17 hx17
    refine ev_r_iald (pc := 64) hx17 (by decide +kernel) (by exact ev_ab_261) ?_
    intro x18 hx18
    exact ev_r_ireturn (pc := 65) (x := x18) (v := Int32.ofInt x18) (ty := .int) hx18 (by decide +kernel) (by decide +kernel) rfl rfl
  · intro c12
    refine ev_r_aload_n (pc := 34) (k := 0) (v := .ref 254) trivial (by decide +kernel) (by exact e7) ?_
    refine ev_r_virt (pc := 35) (y := 92) (mi := 7) (na := 0) (k := 254) (as := []) (rest := []) (encc := ev_oU) (Q := ev_PU) (fun x S1 h => jt_7 d (by omega) Q   s9 x S1 h) (by exact ev_ob_254) (by decide +kernel) (by decide +kernel) (by decide +kernel) (by decide +kernel) rfl (by (try simp only [ev_sum, ev_nv_cat]); first | done | rfl) ?_
    intro _ s19 _
    show ev_w _ _ _ _ _ [] _ _ _ _
    refine ev_r_iinc (pc := 38) (k := 1) (c := 1) (x := x5) (by decide +kernel) (by decide +kernel) (by exact e8) (fun _ => rfl) ?_
    intro x20 hx20
    refine ev_r_goto (pc := 41) (o := (-20)) (t := 21) (by decide +kernel) (by decide +kernel) ?_
    exact hK21 x20 hx20 s19 _ (by exact (ev_lk_st1 e7 (by decide) rfl)) (by exact ev_lk_st1_self)
theorem jlt_6_21 (d : Nat) (hd : 4 ≤ d + 1) (Q : Nat)     : ∀ q : Nat, ∀ (x5 : Int) (hx5 : ev_rng x5), ∀ (s9 : ev_St) (w6 : List (Nat × Value)), ev_lk w6 0 = some (.ref 254) → ev_lk w6 1 = some (.int (Int32.ofInt x5)) → ev_w none (ev_Mof 6) d 21 w6 [] s9 (jl_6_21 Q   q x5 s9) ev_eI ev_rng := by
  intro q
  induction q with
  | zero =>
    intro x5 hx5 s9 w6 e7 e8
    exact ev_w_none
  | succ q ih => exact jbt_6_21 d hd Q     _ ih
/-- MendBench$Buffers.redoGroup()I -/
def jm_6 (Q : Nat)  (S : ev_St) : Option ((Int) × ev_St) := ev_b (S.1 254 12) fun x1 => if x1 < 0 then (some (0, S)) else (ev_b (S.1 254 12) fun x3 => if x3 < 1024 then (jl_6_21 Q   Q 0 S) else (some (0, S)))
theorem jt_6 (d : Nat) (hd : 4 ≤ d) (Q : Nat)   (S : ev_St) (x : Int) (S' : ev_St) (hJ : jm_6 Q  S = some (x, S')) : ev_Ref d 6 [.ref 254] S (ev_eI x) S' (ev_rng x) := by
  obtain ⟨d, rfl⟩ : ∃ e, d = e + 1 := ⟨d - 1, by omega⟩
  refine ev_ref_of (P := ev_rng) (lv := [(0, .ref 254)]) (by decide +kernel) (by (try simp only [ev_sum, ev_nv_cat]); first | done | rfl) (by (try simp only [lv_args, ev_nv_cat]); first | done | rfl) ?_ x S' hJ
  unfold jm_6
  refine ev_r_aload_n (pc := 0) (k := 0) (v := .ref 254) trivial (by decide +kernel) (by rfl) ?_
  refine ev_r_getI (pc := 1) (y := 57) (ci := 0) (f := 12) (fin := 0) (by decide +kernel) (by decide +kernel) (by exact ev_ob_254) rfl ?_
  intro x1 hx1
  refine ev_r_if (pc := 4) (q := .lt) (o := 13) (t := 17) (c := x1 < 0) (by decide +kernel) (ev_k_lt hx1 ev_rng0) (by decide +kernel) ?_ ?_
  · intro c2
    refine ev_r_iconst (pc := 17) (k := 0) (by decide +kernel) ?_
    exact ev_r_ireturn (pc := 18) (x := 0) (v := Int32.ofInt 0) (ty := .int) (by decide) (by decide +kernel) (by decide +kernel) rfl rfl
  · intro c2
    refine ev_r_aload_n (pc := 7) (k := 0) (v := .ref 254) trivial (by decide +kernel) (by rfl) ?_
    refine ev_r_getI (pc := 8) (y := 57) (ci := 0) (f := 12) (fin := 0) (by decide +kernel) (by decide +kernel) (by exact ev_ob_254) rfl ?_
    intro x3 hx3
    refine ev_r_sipush (pc := 11) (k := 1024) (by decide +kernel) (by decide +kernel) ?_
    refine ev_r_icmp (pc := 14) (q := .lt) (o := 5) (t := 19) (c := x3 < 1024) (by decide +kernel) (ev_k_lt hx3 (by decide)) (by decide +kernel) ?_ ?_
    · intro c4
      refine ev_r_iconst (pc := 19) (k := 0) (by decide +kernel) ?_
      refine ev_r_istore_n (pc := 20) (k := 1) (by decide +kernel) (by decide +kernel) rfl ?_
      exact jlt_6_21 d hd Q     Q 0 (by decide) S _ (by exact (ev_lk_st1 (by rfl) (by decide) rfl)) (by exact ev_lk_st1_self)
    · intro c4
      refine ev_r_iconst (pc := 17) (k := 0) (by decide +kernel) ?_
      exact ev_r_ireturn (pc := 18) (x := 0) (v := Int32.ofInt 0) (ty := .int) (by decide) (by decide +kernel) (by decide +kernel) rfl rfl
/-- MendBench$ClassReader.beginOperand()V -/
def jm_20 (Q : Nat)  (S : ev_St) : Option ((Unit) × ev_St) := ev_b (S.1 6 7) fun x1 => if x1 < 0 then (some ((), S)) else (ev_b (S.1 6 7) fun x3 => if 128 ≤ x3 then (some ((), S)) else (ev_b (S.1 6 7) fun x5 => ev_if ((0 : Int) ≤ x5 ∧ x5 < (ev_aln 9 : Int)) (ev_b (ev_pL S 9 (Int.toNat x5) ((Int64.ofNat ((0 : Fin 2) : Nat)))) fun s6 => ev_b (s6.1 6 7) fun x7 => ev_if ((0 : Int) ≤ x7 ∧ x7 < (ev_aln 10 : Int)) (ev_b (ev_pL s6 10 (Int.toNat x7) ((Int64.ofNat ((0 : Fin 2) : Nat)))) fun s8 => ev_b (s8.1 6 7) fun x9 => ev_if ((0 : Int) ≤ x9 ∧ x9 < (ev_aln 11 : Int)) (ev_b (ev_pI s8 11 (Int.toNat x9) 0) fun s10 => some ((), s10))))))
theorem jt_20 (d : Nat) (hd : 1 ≤ d) (Q : Nat)   (S : ev_St) (x : Unit) (S' : ev_St) (hJ : jm_20 Q  S = some (x, S')) : ev_Ref d 20 [.ref 6] S (ev_eU x) S' (ev_PU x) := by
  obtain ⟨d, rfl⟩ : ∃ e, d = e + 1 := ⟨d - 1, by omega⟩
  refine ev_ref_of (P := ev_PU) (lv := [(0, .ref 6)]) (by decide +kernel) (by (try simp only [ev_sum, ev_nv_cat]); first | done | rfl) (by (try simp only [lv_args, ev_nv_cat]); first | done | rfl) ?_ x S' hJ
  unfold jm_20
  refine ev_r_aload_n (pc := 0) (k := 0) (v := .ref 6) trivial (by decide +kernel) (by rfl) ?_
  refine ev_r_getI (pc := 1) (y := 47) (ci := 1) (f := 7) (fin := 0) (by decide +kernel) (by decide +kernel) (by exact ev_ob_6) rfl ?_
  intro x1 hx1
  refine ev_r_if (pc := 4) (q := .lt) (o := 43) (t := 47) (c := x1 < 0) (by decide +kernel) (ev_k_lt hx1 ev_rng0) (by decide +kernel) ?_ ?_
  · intro c2
    exact ev_r_return (pc := 47) (x := ()) trivial (by decide +kernel) (by decide +kernel) rfl
  · intro c2
    refine ev_r_aload_n (pc := 7) (k := 0) (v := .ref 6) trivial (by decide +kernel) (by rfl) ?_
    refine ev_r_getI (pc := 8) (y := 47) (ci := 1) (f := 7) (fin := 0) (by decide +kernel) (by decide +kernel) (by exact ev_ob_6) rfl ?_
    intro x3 hx3
    refine ev_r_sipush (pc := 11) (k := 128) (by decide +kernel) (by decide +kernel) ?_
    refine ev_r_icmp (pc := 14) (q := .ge) (o := 33) (t := 47) (c := 128 ≤ x3) (by decide +kernel) (ev_k_ge hx3 (by decide)) (by decide +kernel) ?_ ?_
    · intro c4
      exact ev_r_return (pc := 47) (x := ()) trivial (by decide +kernel) (by decide +kernel) rfl
    · intro c4
      refine ev_r_aload_n (pc := 17) (k := 0) (v := .ref 6) trivial (by decide +kernel) (by rfl) ?_
      refine ev_r_getC (pc := 18) (y := 18) (ci := 1) (f := 2) (fin := 1) (k' := 9) (by decide +kernel) (by decide +kernel) (by exact ev_ob_6) rfl rfl ?_
      refine ev_r_aload_n (pc := 21) (k := 0) (v := .ref 6) trivial (by decide +kernel) (by rfl) ?_
      refine ev_r_getI (pc := 22) (y := 47) (ci := 1) (f := 7) (fin := 0) (by decide +kernel) (by decide +kernel) (by exact ev_ob_6) rfl ?_
      intro x5 hx5
      refine ev_r_lconst (pc := 25) (c := 0) (by decide +kernel) ?_
      refine ev_r_last (pc := 26) hx5 (by decide +kernel) (by exact ev_ab_9) ?_
      intro s6
      refine ev_r_aload_n (pc := 27) (k := 0) (v := .ref 6) trivial (by decide +kernel) (by rfl) ?_
      refine ev_r_getC (pc := 28) (y := 21) (ci := 1) (f := 3) (fin := 1) (k' := 10) (by decide +kernel) (by decide +kernel) (by exact ev_ob_6) rfl rfl ?_
      refine ev_r_aload_n (pc := 31) (k := 0) (v := .ref 6) trivial (by decide +kernel) (by rfl) ?_
      refine ev_r_getI (pc := 32) (y := 47) (ci := 1) (f := 7) (fin := 0) (by decide +kernel) (by decide +kernel) (by exact ev_ob_6) rfl ?_
      intro x7 hx7
      refine ev_r_lconst (pc := 35) (c := 0) (by decide +kernel) ?_
      refine ev_r_last (pc := 36) hx7 (by decide +kernel) (by exact ev_ab_10) ?_
      intro s8
      refine ev_r_aload_n (pc := 37) (k := 0) (v := .ref 6) trivial (by decide +kernel) (by rfl) ?_
      refine ev_r_getC (pc := 38) (y := 24) (ci := 1) (f := 4) (fin := 1) (k' := 11) (by decide +kernel) (by decide +kernel) (by exact ev_ob_6) rfl rfl ?_
      refine ev_r_aload_n (pc := 41) (k := 0) (v := .ref 6) trivial (by decide +kernel) (by rfl) ?_
      refine ev_r_getI (pc := 42) (y := 47) (ci := 1) (f := 7) (fin := 0) (by decide +kernel) (by decide +kernel) (by exact ev_ob_6) rfl ?_
      intro x9 hx9
      refine ev_r_iconst (pc := 45) (k := 0) (by decide +kernel) ?_
      refine ev_r_bast (pc := 46) (ty := .boolean) (Or.inr rfl) (ev_nar_bl (by decide : ev_bl 0)) (by decide) hx9 (by decide +kernel) (by exact ev_ab_11) ?_
      intro s10
      exact ev_r_return (pc := 47) (x := ()) trivial (by decide +kernel) (by decide +kernel) rfl
/-- MendBench$ClassReader.begin()Z -/
def jm_19 (Q : Nat)  (S : ev_St) : Option ((Int) × ev_St) := ev_b (S.1 6 7) fun x1 => ev_ck (x1 + 1) fun x2 => if x2 < 0 then (some (0, S)) else (ev_b (S.1 6 7) fun x4 => ev_ck (x4 + 1) fun x5 => if x5 < 128 then (ev_b (S.1 6 7) fun x7 => ev_ck (x7 + 1) fun x8 => ev_b (ev_pI S 6 7 x8) fun s9 => ev_b (s9.1 6 7) fun x10 => ev_if ((0 : Int) ≤ x10 ∧ x10 < (ev_aln 7 : Int)) (ev_b (ev_pL s9 7 (Int.toNat x10) ((Int64.ofNat ((0 : Fin 2) : Nat)))) fun s11 => ev_b (s11.1 6 7) fun x12 => ev_if ((0 : Int) ≤ x12 ∧ x12 < (ev_aln 8 : Int)) (ev_b (ev_pL s11 8 (Int.toNat x12) ((Int64.ofNat ((0 : Fin 2) : Nat)))) fun s13 => ev_b (s13.1 6 7) fun x14 => ev_if ((0 : Int) ≤ x14 ∧ x14 < (ev_aln 13 : Int)) (ev_b (ev_pI s13 13 (Int.toNat x14) 0) fun s15 => ev_bd (jm_20 Q  s15) fun _ s16 => ev_b (s16.1 6 7) fun x17 => ev_b (s16.2.2.1 6 8) fun r18 => ev_b (s16.1 6 9) fun x19 => ev_if (r18 ≠ 0) (ev_bd (jm_151 Q ((r18 - 1)) x19 s16) fun x22 s21 => ev_jn (fun (x25 : Int) (x24 : Int) (r23 : Nat) (s28 : ev_St) => ev_if (ev_bl x25) (ev_if ((0 : Int) ≤ x24 ∧ x24 < (ev_aln r23 : Int)) (ev_b (ev_pI s28 r23 (Int.toNat x24) x25) fun s29 => ev_b (s29.1 6 7) fun x31 => ev_if ((0 : Int) ≤ x31 ∧ x31 < (ev_aln 12 : Int)) (ev_b (s29.1 12 (Int.toNat x31)) fun x32 => if x32 = 0 then (some (1, s29)) else (ev_b (s29.1 6 9) fun x34 => ev_ck (x34 + 1) fun x35 => ev_b (ev_pI s29 6 9 x35) fun s36 => some (1, s36)))))) fun K96 => if x22 ≠ 94 then (K96 0 x17 12 s21) else (K96 1 x17 12 s21)))))) else (some (0, S)))
theorem jt_19 (d : Nat) (hd : 2 ≤ d) (Q : Nat)   (S : ev_St) (x : Int) (S' : ev_St) (hJ : jm_19 Q  S = some (x, S')) : ev_Ref d 19 [.ref 6] S (ev_eI x) S' (ev_bl x) := by
  obtain ⟨d, rfl⟩ : ∃ e, d = e + 1 := ⟨d - 1, by omega⟩
  refine ev_ref_of (P := ev_bl) (lv := [(0, .ref 6)]) (by decide +kernel) (by (try simp only [ev_sum, ev_nv_cat]); first | done | rfl) (by (try simp only [lv_args, ev_nv_cat]); first | done | rfl) ?_ x S' hJ
  unfold jm_19
  refine ev_r_aload_n (pc := 0) (k := 0) (v := .ref 6) trivial (by decide +kernel) (by rfl) ?_
  refine ev_r_getI (pc := 1) (y := 47) (ci := 1) (f := 7) (fin := 0) (by decide +kernel) (by decide +kernel) (by exact ev_ob_6) rfl ?_
  intro x1 hx1
  refine ev_r_iconst (pc := 4) (k := 1) (by decide +kernel) ?_
  refine ev_r_iadd (pc := 5) (by decide +kernel) ?_
  intro x2 hx2
  refine ev_r_if (pc := 6) (q := .lt) (o := 15) (t := 21) (c := x2 < 0) (by decide +kernel) (ev_k_lt hx2 ev_rng0) (by decide +kernel) ?_ ?_
  · intro c3
    refine ev_r_iconst (pc := 21) (k := 0) (by decide +kernel) ?_
    exact ev_r_ireturn (pc := 22) (x := 0) (v := Int32.ofInt 0) (ty := .boolean) (by decide : ev_bl 0) (by decide +kernel) (by decide +kernel) (ev_ret_bl (by decide : ev_bl 0)) rfl
  · intro c3
    refine ev_r_aload_n (pc := 9) (k := 0) (v := .ref 6) trivial (by decide +kernel) (by rfl) ?_
    refine ev_r_getI (pc := 10) (y := 47) (ci := 1) (f := 7) (fin := 0) (by decide +kernel) (by decide +kernel) (by exact ev_ob_6) rfl ?_
    intro x4 hx4
    refine ev_r_iconst (pc := 13) (k := 1) (by decide +kernel) ?_
    refine ev_r_iadd (pc := 14) (by decide +kernel) ?_
    intro x5 hx5
    refine ev_r_sipush (pc := 15) (k := 128) (by decide +kernel) (by decide +kernel) ?_
    refine ev_r_icmp (pc := 18) (q := .lt) (o := 5) (t := 23) (c := x5 < 128) (by decide +kernel) (ev_k_lt hx5 (by decide)) (by decide +kernel) ?_ ?_
    · intro c6
      refine ev_r_aload_n (pc := 23) (k := 0) (v := .ref 6) trivial (by decide +kernel) (by rfl) ?_
      refine ev_r_dup (pc := 24) rfl (by decide +kernel) ?_
      refine ev_r_getI (pc := 25) (y := 47) (ci := 1) (f := 7) (fin := 0) (by decide +kernel) (by decide +kernel) (by exact ev_ob_6) rfl ?_
      intro x7 hx7
      refine ev_r_iconst (pc := 28) (k := 1) (by decide +kernel) ?_
      refine ev_r_iadd (pc := 29) (by decide +kernel) ?_
      intro x8 hx8
      refine ev_r_putI (pc := 30) (y := 47) (ci := 1) (f := 7) hx8 (by decide +kernel) (by decide +kernel) (by exact ev_ob_6) rfl rfl ?_
      intro s9
      refine ev_r_aload_n (pc := 33) (k := 0) (v := .ref 6) trivial (by decide +kernel) (by rfl) ?_
      refine ev_r_getC (pc := 34) (y := 11) (ci := 1) (f := 0) (fin := 1) (k' := 7) (by decide +kernel) (by decide +kernel) (by exact ev_ob_6) rfl rfl ?_
      refine ev_r_aload_n (pc := 37) (k := 0) (v := .ref 6) trivial (by decide +kernel) (by rfl) ?_
      refine ev_r_getI (pc := 38) (y := 47) (ci := 1) (f := 7) (fin := 0) (by decide +kernel) (by decide +kernel) (by exact ev_ob_6) rfl ?_
      intro x10 hx10
      refine ev_r_lconst (pc := 41) (c := 0) (by decide +kernel) ?_
      refine ev_r_last (pc := 42) hx10 (by decide +kernel) (by exact ev_ab_7) ?_
      intro s11
      refine ev_r_aload_n (pc := 43) (k := 0) (v := .ref 6) trivial (by decide +kernel) (by rfl) ?_
      refine ev_r_getC (pc := 44) (y := 15) (ci := 1) (f := 1) (fin := 1) (k' := 8) (by decide +kernel) (by decide +kernel) (by exact ev_ob_6) rfl rfl ?_
      refine ev_r_aload_n (pc := 47) (k := 0) (v := .ref 6) trivial (by decide +kernel) (by rfl) ?_
      refine ev_r_getI (pc := 48) (y := 47) (ci := 1) (f := 7) (fin := 0) (by decide +kernel) (by decide +kernel) (by exact ev_ob_6) rfl ?_
      intro x12 hx12
      refine ev_r_lconst (pc := 51) (c := 0) (by decide +kernel) ?_
      refine ev_r_last (pc := 52) hx12 (by decide +kernel) (by exact ev_ab_8) ?_
      intro s13
      refine ev_r_aload_n (pc := 53) (k := 0) (v := .ref 6) trivial (by decide +kernel) (by rfl) ?_
      refine ev_r_getC (pc := 54) (y := 31) (ci := 1) (f := 6) (fin := 1) (k' := 13) (by decide +kernel) (by decide +kernel) (by exact ev_ob_6) rfl rfl ?_
      refine ev_r_aload_n (pc := 57) (k := 0) (v := .ref 6) trivial (by decide +kernel) (by rfl) ?_
      refine ev_r_getI (pc := 58) (y := 47) (ci := 1) (f := 7) (fin := 0) (by decide +kernel) (by decide +kernel) (by exact ev_ob_6) rfl ?_
      intro x14 hx14
      refine ev_r_iconst (pc := 61) (k := 0) (by decide +kernel) ?_
      refine ev_r_iast (pc := 62) (by decide) hx14 (by decide +kernel) (by exact ev_ab_13) ?_
      intro s15
      refine ev_r_aload_n (pc := 63) (k := 0) (v := .ref 6) trivial (by decide +kernel) (by rfl) ?_
      refine ev_r_virt (pc := 64) (y := 59) (mi := 20) (na := 0) (k := 6) (as := []) (rest := []) (encc := ev_oU) (Q := ev_PU) (fun x S1 h => jt_20 d (by omega) Q   s15 x S1 h) (by exact ev_ob_6) (by decide +kernel) (by decide +kernel) (by decide +kernel) (by decide +kernel) rfl (by (try simp only [ev_sum, ev_nv_cat]); first | done | rfl) ?_
      intro _ s16 _
      show ev_w _ _ _ _ _ [] _ _ _ _
      refine ev_r_aload_n (pc := 67) (k := 0) (v := .ref 6) trivial (by decide +kernel) (by rfl) ?_
      refine ev_r_getC (pc := 68) (y := 28) (ci := 1) (f := 5) (fin := 1) (k' := 12) (by decide +kernel) (by decide +kernel) (by exact ev_ob_6) rfl rfl ?_
      refine ev_r_aload_n (pc := 71) (k := 0) (v := .ref 6) trivial (by decide +kernel) (by rfl) ?_
      refine ev_r_getI (pc := 72) (y := 47) (ci := 1) (f := 7) (fin := 0) (by decide +kernel) (by decide +kernel) (by exact ev_ob_6) rfl ?_
      intro x17 hx17
      refine ev_r_aload_n (pc := 75) (k := 0) (v := .ref 6) trivial (by decide +kernel) (by rfl) ?_
      refine ev_r_getR (pc := 76) (y := 35) (ci := 1) (f := 8) (fin := 0) (t := 10) (by decide +kernel) (by decide +kernel) (by exact ev_ob_6) rfl rfl ?_
      intro r18 hr18
      have hr18 : r18 = 0 ∨ ev_isOb (r18 - 1) 10 = true := hr18
      refine ev_r_aload_n (pc := 79) (k := 0) (v := .ref 6) trivial (by decide +kernel) (by rfl) ?_
      refine ev_r_getI (pc := 80) (y := 39) (ci := 1) (f := 9) (fin := 0) (by decide +kernel) (by decide +kernel) (by exact ev_ob_6) rfl ?_
      intro x19 hx19
      refine ev_r_chk ?_
      intro c20
      refine ev_r_dr (r := r18) (fun v => [.int (Int32.ofInt x19), v, .int (Int32.ofInt x17), .ref 12]) c20 ?_
      refine ev_r_virt (pc := 83) (y := 62) (mi := 151) (na := 1) (k := (r18 - 1)) (as := [.int (Int32.ofInt x19)]) (rest := [.int (Int32.ofInt x17), .ref 12]) (encc := ev_oI) (Q := ev_rng) (fun x S1 h => jt_151 d (by omega) Q ((r18 - 1)) x19 (hr18.resolve_left c20) hx19 s16 x S1 h) (by exact (hr18.resolve_left c20)) (by decide +kernel) (by decide +kernel) (by decide +kernel) (by decide +kernel) rfl (by (try simp only [ev_sum, ev_nv_cat]); first | done | rfl) ?_
      intro x22 s21 hx22
      show ev_w _ _ _ _ _ [.int (Int32.ofInt x22), .int (Int32.ofInt x17), .ref 12] _ _ _ _
      refine ev_r_bipush (pc := 86) (k := 94) (by decide +kernel) (by decide +kernel) ?_
      refine ev_r_jn (Q := fun K => ∀ (x25 : Int) (hx25 : ev_rng x25), ∀ (x24 : Int) (hx24 : ev_rng x24), ∀ (r23 : Nat) (hr23 : ev_isAb r23 1 .boolean = true), ∀ (s28 : ev_St) (w26 : List (Nat × Value)), ev_lk w26 0 = some (.ref 6) → ev_w none (ev_Mof 19) d 96 w26 [.int (Int32.ofInt x25), .int (Int32.ofInt x24), .ref r23] s28 (K x25 x24 r23 s28) ev_eI ev_bl) ?_ ?_
      · intro x25 hx25 x24 hx24 r23 hr23 s28 w26 e27
        refine ev_r_chk ?_
        intro c30
        refine ev_r_bast (pc := 96) (ty := .boolean) (Or.inr rfl) (ev_nar_bl c30) hx25 hx24 (by decide +kernel) (by exact hr23) ?_
        intro s29
        refine ev_r_aload_n (pc := 97) (k := 0) (v := .ref 6) trivial (by decide +kernel) (by exact e27) ?_
        refine ev_r_getC (pc := 98) (y := 28) (ci := 1) (f := 5) (fin := 1) (k' := 12) (by decide +kernel) (by decide +kernel) (by exact ev_ob_6) rfl rfl ?_
        refine ev_r_aload_n (pc := 101) (k := 0) (v := .ref 6) trivial (by decide +kernel) (by exact e27) ?_
        refine ev_r_getI (pc := 102) (y := 47) (ci := 1) (f := 7) (fin := 0) (by decide +kernel) (by decide +kernel) (by exact ev_ob_6) rfl ?_
        intro x31 hx31
        refine ev_r_bald (pc := 105) (ty := .boolean) (Or.inr rfl) hx31 (by decide +kernel) (by exact ev_ab_12) ?_
        intro x32 hx32
        refine ev_r_if (pc := 106) (q := .eq) (o := 13) (t := 119) (c := x32 = 0) (by decide +kernel) (ev_k_eq hx32 ev_rng0) (by decide +kernel) ?_ ?_
        · intro c33
          refine ev_r_iconst (pc := 119) (k := 1) (by decide +kernel) ?_
          exact ev_r_ireturn (pc := 120) (x := 1) (v := Int32.ofInt 1) (ty := .boolean) (by decide : ev_bl 1) (by decide +kernel) (by decide +kernel) (ev_ret_bl (by decide : ev_bl 1)) rfl
        · intro c33
          refine ev_r_aload_n (pc := 109) (k := 0) (v := .ref 6) trivial (by decide +kernel) (by exact e27) ?_
          refine ev_r_dup (pc := 110) rfl (by decide +kernel) ?_
          refine ev_r_getI (pc := 111) (y := 39) (ci := 1) (f := 9) (fin := 0) (by decide +kernel) (by decide +kernel) (by exact ev_ob_6) rfl ?_
          intro x34 hx34
          refine ev_r_iconst (pc := 114) (k := 1) (by decide +kernel) ?_
          refine ev_r_iadd (pc := 115) (by decide +kernel) ?_
          intro x35 hx35
          refine ev_r_putI (pc := 116) (y := 39) (ci := 1) (f := 9) hx35 (by decide +kernel) (by decide +kernel) (by exact ev_ob_6) rfl rfl ?_
          intro s36
          refine ev_r_iconst (pc := 119) (k := 1) (by decide +kernel) ?_
          exact ev_r_ireturn (pc := 120) (x := 1) (v := Int32.ofInt 1) (ty := .boolean) (by decide : ev_bl 1) (by decide +kernel) (by decide +kernel) (ev_ret_bl (by decide : ev_bl 1)) rfl
      · intro K96 hK96
        refine ev_r_icmp (pc := 88) (q := .ne) (o := 7) (t := 95) (c := x22 ≠ 94) (by decide +kernel) (ev_k_ne hx22 (by decide)) (by decide +kernel) ?_ ?_
        · intro c37
          refine ev_r_iconst (pc := 95) (k := 0) (by decide +kernel) ?_
          exact hK96 0 (by decide) x17 hx17 12 ev_ab_12 s21 _ (by rfl)
        · intro c37
          refine ev_r_iconst (pc := 91) (k := 1) (by decide +kernel) ?_
          refine ev_r_goto (pc := 92) (o := 4) (t := 96) (by decide +kernel) (by decide +kernel) ?_
          exact hK96 1 (by decide) x17 hx17 12 ev_ab_12 s21 _ (by rfl)
    · intro c6
      refine ev_r_iconst (pc := 21) (k := 0) (by decide +kernel) ?_
      exact ev_r_ireturn (pc := 22) (x := 0) (v := Int32.ofInt 0) (ty := .boolean) (by decide : ev_bl 0) (by decide +kernel) (by decide +kernel) (ev_ret_bl (by decide : ev_bl 0)) rfl
/-- MendBench$ClassReader.join()Z -/
def jm_24 (Q : Nat)  (S : ev_St) : Option ((Int) × ev_St) := ev_b (S.1 6 7) fun x1 => if x1 < 0 then (some (0, S)) else (ev_b (S.1 6 7) fun x3 => if 128 ≤ x3 then (some (0, S)) else (ev_b (S.1 6 7) fun x5 => ev_if ((0 : Int) ≤ x5 ∧ x5 < (ev_aln 11 : Int)) (ev_b (S.1 11 (Int.toNat x5)) fun x6 => if x6 ≠ 0 then (ev_b (S.1 6 7) fun x8 => ev_if ((0 : Int) ≤ x8 ∧ x8 < (ev_aln 13 : Int)) (ev_b (S.1 13 (Int.toNat x8)) fun x9 => if x9 ≠ 38 then (ev_b (S.1 6 7) fun x11 => ev_if ((0 : Int) ≤ x11 ∧ x11 < (ev_aln 13 : Int)) (ev_b (S.1 13 (Int.toNat x11)) fun x12 => if x12 ≠ 45 then (ev_b (S.1 6 7) fun x14 => ev_b (S.1 6 7) fun x15 => ev_if ((0 : Int) ≤ x15 ∧ x15 < (ev_aln 9 : Int)) (ev_b (S.2.1 9 (Int.toNat x15)) fun y16 => ev_if ((0 : Int) ≤ x14 ∧ x14 < (ev_aln 7 : Int)) (ev_b (ev_pL S 7 (Int.toNat x14) y16) fun s17 => ev_b (s17.1 6 7) fun x18 => ev_b (s17.1 6 7) fun x19 => ev_if ((0 : Int) ≤ x19 ∧ x19 < (ev_aln 10 : Int)) (ev_b (s17.2.1 10 (Int.toNat x19)) fun y20 => ev_if ((0 : Int) ≤ x18 ∧ x18 < (ev_aln 8 : Int)) (ev_b (ev_pL s17 8 (Int.toNat x18) y20) fun s21 => some (1, s21)))))) else (ev_b (S.1 6 7) fun x22 => ev_if ((0 : Int) ≤ x22 ∧ x22 < (ev_aln 7 : Int)) (ev_b (S.2.1 7 (Int.toNat x22)) fun y23 => ev_b (S.1 6 7) fun x24 => ev_if ((0 : Int) ≤ x24 ∧ x24 < (ev_aln 9 : Int)) (ev_b (S.2.1 9 (Int.toNat x24)) fun y25 => ev_b (y25 ^^^ (-1)) fun y26 => ev_b (y23 &&& y26) fun y27 => ev_if ((0 : Int) ≤ x22 ∧ x22 < (ev_aln 7 : Int)) (ev_b (ev_pL S 7 (Int.toNat x22) y27) fun s28 => ev_b (s28.1 6 7) fun x29 => ev_if ((0 : Int) ≤ x29 ∧ x29 < (ev_aln 8 : Int)) (ev_b (s28.2.1 8 (Int.toNat x29)) fun y30 => ev_b (s28.1 6 7) fun x31 => ev_if ((0 : Int) ≤ x31 ∧ x31 < (ev_aln 10 : Int)) (ev_b (s28.2.1 10 (Int.toNat x31)) fun y32 => ev_b (y32 ^^^ (-1)) fun y33 => ev_b (y30 &&& y33) fun y34 => ev_if ((0 : Int) ≤ x29 ∧ x29 < (ev_aln 8 : Int)) (ev_b (ev_pL s28 8 (Int.toNat x29) y34) fun s35 => some (1, s35)))))))))) else (ev_b (S.1 6 7) fun x36 => ev_if ((0 : Int) ≤ x36 ∧ x36 < (ev_aln 7 : Int)) (ev_b (S.2.1 7 (Int.toNat x36)) fun y37 => ev_b (S.1 6 7) fun x38 => ev_if ((0 : Int) ≤ x38 ∧ x38 < (ev_aln 9 : Int)) (ev_b (S.2.1 9 (Int.toNat x38)) fun y39 => ev_b (y37 &&& y39) fun y40 => ev_if ((0 : Int) ≤ x36 ∧ x36 < (ev_aln 7 : Int)) (ev_b (ev_pL S 7 (Int.toNat x36) y40) fun s41 => ev_b (s41.1 6 7) fun x42 => ev_if ((0 : Int) ≤ x42 ∧ x42 < (ev_aln 8 : Int)) (ev_b (s41.2.1 8 (Int.toNat x42)) fun y43 => ev_b (s41.1 6 7) fun x44 => ev_if ((0 : Int) ≤ x44 ∧ x44 < (ev_aln 10 : Int)) (ev_b (s41.2.1 10 (Int.toNat x44)) fun y45 => ev_b (y43 &&& y45) fun y46 => ev_if ((0 : Int) ≤ x42 ∧ x42 < (ev_aln 8 : Int)) (ev_b (ev_pL s41 8 (Int.toNat x42) y46) fun s47 => some (1, s47)))))))))) else (some (0, S)))))
theorem jt_24 (d : Nat) (hd : 1 ≤ d) (Q : Nat)   (S : ev_St) (x : Int) (S' : ev_St) (hJ : jm_24 Q  S = some (x, S')) : ev_Ref d 24 [.ref 6] S (ev_eI x) S' (ev_bl x) := by
  obtain ⟨d, rfl⟩ : ∃ e, d = e + 1 := ⟨d - 1, by omega⟩
  refine ev_ref_of (P := ev_bl) (lv := [(0, .ref 6)]) (by decide +kernel) (by (try simp only [ev_sum, ev_nv_cat]); first | done | rfl) (by (try simp only [lv_args, ev_nv_cat]); first | done | rfl) ?_ x S' hJ
  unfold jm_24
  refine ev_r_aload_n (pc := 0) (k := 0) (v := .ref 6) trivial (by decide +kernel) (by rfl) ?_
  refine ev_r_getI (pc := 1) (y := 47) (ci := 1) (f := 7) (fin := 0) (by decide +kernel) (by decide +kernel) (by exact ev_ob_6) rfl ?_
  intro x1 hx1
  refine ev_r_if (pc := 4) (q := .lt) (o := 25) (t := 29) (c := x1 < 0) (by decide +kernel) (ev_k_lt hx1 ev_rng0) (by decide +kernel) ?_ ?_
  · intro c2
    refine ev_r_iconst (pc := 29) (k := 0) (by decide +kernel) ?_
    exact ev_r_ireturn (pc := 30) (x := 0) (v := Int32.ofInt 0) (ty := .boolean) (by decide : ev_bl 0) (by decide +kernel) (by decide +kernel) (ev_ret_bl (by decide : ev_bl 0)) rfl
  · intro c2
    refine ev_r_aload_n (pc := 7) (k := 0) (v := .ref 6) trivial (by decide +kernel) (by rfl) ?_
    refine ev_r_getI (pc := 8) (y := 47) (ci := 1) (f := 7) (fin := 0) (by decide +kernel) (by decide +kernel) (by exact ev_ob_6) rfl ?_
    intro x3 hx3
    refine ev_r_sipush (pc := 11) (k := 128) (by decide +kernel) (by decide +kernel) ?_
    refine ev_r_icmp (pc := 14) (q := .ge) (o := 15) (t := 29) (c := 128 ≤ x3) (by decide +kernel) (ev_k_ge hx3 (by decide)) (by decide +kernel) ?_ ?_
    · intro c4
      refine ev_r_iconst (pc := 29) (k := 0) (by decide +kernel) ?_
      exact ev_r_ireturn (pc := 30) (x := 0) (v := Int32.ofInt 0) (ty := .boolean) (by decide : ev_bl 0) (by decide +kernel) (by decide +kernel) (ev_ret_bl (by decide : ev_bl 0)) rfl
    · intro c4
      refine ev_r_aload_n (pc := 17) (k := 0) (v := .ref 6) trivial (by decide +kernel) (by rfl) ?_
      refine ev_r_getC (pc := 18) (y := 24) (ci := 1) (f := 4) (fin := 1) (k' := 11) (by decide +kernel) (by decide +kernel) (by exact ev_ob_6) rfl rfl ?_
      refine ev_r_aload_n (pc := 21) (k := 0) (v := .ref 6) trivial (by decide +kernel) (by rfl) ?_
      refine ev_r_getI (pc := 22) (y := 47) (ci := 1) (f := 7) (fin := 0) (by decide +kernel) (by decide +kernel) (by exact ev_ob_6) rfl ?_
      intro x5 hx5
      refine ev_r_bald (pc := 25) (ty := .boolean) (Or.inr rfl) hx5 (by decide +kernel) (by exact ev_ab_11) ?_
      intro x6 hx6
      refine ev_r_if (pc := 26) (q := .ne) (o := 5) (t := 31) (c := x6 ≠ 0) (by decide +kernel) (ev_k_ne hx6 ev_rng0) (by decide +kernel) ?_ ?_
      · intro c7
        refine ev_r_aload_n (pc := 31) (k := 0) (v := .ref 6) trivial (by decide +kernel) (by rfl) ?_
        refine ev_r_getC (pc := 32) (y := 31) (ci := 1) (f := 6) (fin := 1) (k' := 13) (by decide +kernel) (by decide +kernel) (by exact ev_ob_6) rfl rfl ?_
        refine ev_r_aload_n (pc := 35) (k := 0) (v := .ref 6) trivial (by decide +kernel) (by rfl) ?_
        refine ev_r_getI (pc := 36) (y := 47) (ci := 1) (f := 7) (fin := 0) (by decide +kernel) (by decide +kernel) (by exact ev_ob_6) rfl ?_
        intro x8 hx8
        refine ev_r_iald (pc := 39) hx8 (by decide +kernel) (by exact ev_ab_13) ?_
        intro x9 hx9
        refine ev_r_bipush (pc := 40) (k := 38) (by decide +kernel) (by decide +kernel) ?_
        refine ev_r_icmp (pc := 42) (q := .ne) (o := 48) (t := 90) (c := x9 ≠ 38) (by decide +kernel) (ev_k_ne hx9 (by decide)) (by decide +kernel) ?_ ?_
        · intro c10
          refine ev_r_aload_n (pc := 90) (k := 0) (v := .ref 6) trivial (by decide +kernel) (by rfl) ?_
          refine ev_r_getC (pc := 91) (y := 31) (ci := 1) (f := 6) (fin := 1) (k' := 13) (by decide +kernel) (by decide +kernel) (by exact ev_ob_6) rfl rfl ?_
          refine ev_r_aload_n (pc := 94) (k := 0) (v := .ref 6) trivial (by decide +kernel) (by rfl) ?_
          refine ev_r_getI (pc := 95) (y := 47) (ci := 1) (f := 7) (fin := 0) (by decide +kernel) (by decide +kernel) (by exact ev_ob_6) rfl ?_
          intro x11 hx11
          refine ev_r_iald (pc := 98) hx11 (by decide +kernel) (by exact ev_ab_13) ?_
          intro x12 hx12
          refine ev_r_bipush (pc := 99) (k := 45) (by decide +kernel) (by decide +kernel) ?_
          refine ev_r_icmp (pc := 101) (q := .ne) (o := 56) (t := 157) (c := x12 ≠ 45) (by decide +kernel) (ev_k_ne hx12 (by decide)) (by decide +kernel) ?_ ?_
          · intro c13
            refine ev_r_aload_n (pc := 157) (k := 0) (v := .ref 6) trivial (by decide +kernel) (by rfl) ?_
            refine ev_r_getC (pc := 158) (y := 11) (ci := 1) (f := 0) (fin := 1) (k' := 7) (by decide +kernel) (by decide +kernel) (by exact ev_ob_6) rfl rfl ?_
            refine ev_r_aload_n (pc := 161) (k := 0) (v := .ref 6) trivial (by decide +kernel) (by rfl) ?_
            refine ev_r_getI (pc := 162) (y := 47) (ci := 1) (f := 7) (fin := 0) (by decide +kernel) (by decide +kernel) (by exact ev_ob_6) rfl ?_
            intro x14 hx14
            refine ev_r_aload_n (pc := 165) (k := 0) (v := .ref 6) trivial (by decide +kernel) (by rfl) ?_
            refine ev_r_getC (pc := 166) (y := 18) (ci := 1) (f := 2) (fin := 1) (k' := 9) (by decide +kernel) (by decide +kernel) (by exact ev_ob_6) rfl rfl ?_
            refine ev_r_aload_n (pc := 169) (k := 0) (v := .ref 6) trivial (by decide +kernel) (by rfl) ?_
            refine ev_r_getI (pc := 170) (y := 47) (ci := 1) (f := 7) (fin := 0) (by decide +kernel) (by decide +kernel) (by exact ev_ob_6) rfl ?_
            intro x15 hx15
            refine ev_r_lald (pc := 173) hx15 (by decide +kernel) (by exact ev_ab_9) ?_
            intro y16
            refine ev_r_last (pc := 174) hx14 (by decide +kernel) (by exact ev_ab_7) ?_
            intro s17
            refine ev_r_aload_n (pc := 175) (k := 0) (v := .ref 6) trivial (by decide +kernel) (by rfl) ?_
            refine ev_r_getC (pc := 176) (y := 15) (ci := 1) (f := 1) (fin := 1) (k' := 8) (by decide +kernel) (by decide +kernel) (by exact ev_ob_6) rfl rfl ?_
            refine ev_r_aload_n (pc := 179) (k := 0) (v := .ref 6) trivial (by decide +kernel) (by rfl) ?_
            refine ev_r_getI (pc := 180) (y := 47) (ci := 1) (f := 7) (fin := 0) (by decide +kernel) (by decide +kernel) (by exact ev_ob_6) rfl ?_
            intro x18 hx18
            refine ev_r_aload_n (pc := 183) (k := 0) (v := .ref 6) trivial (by decide +kernel) (by rfl) ?_
            refine ev_r_getC (pc := 184) (y := 21) (ci := 1) (f := 3) (fin := 1) (k' := 10) (by decide +kernel) (by decide +kernel) (by exact ev_ob_6) rfl rfl ?_
            refine ev_r_aload_n (pc := 187) (k := 0) (v := .ref 6) trivial (by decide +kernel) (by rfl) ?_
            refine ev_r_getI (pc := 188) (y := 47) (ci := 1) (f := 7) (fin := 0) (by decide +kernel) (by decide +kernel) (by exact ev_ob_6) rfl ?_
            intro x19 hx19
            refine ev_r_lald (pc := 191) hx19 (by decide +kernel) (by exact ev_ab_10) ?_
            intro y20
            refine ev_r_last (pc := 192) hx18 (by decide +kernel) (by exact ev_ab_8) ?_
            intro s21
            refine ev_r_iconst (pc := 193) (k := 1) (by decide +kernel) ?_
            exact ev_r_ireturn (pc := 194) (x := 1) (v := Int32.ofInt 1) (ty := .boolean) (by decide : ev_bl 1) (by decide +kernel) (by decide +kernel) (ev_ret_bl (by decide : ev_bl 1)) rfl
          · intro c13
            refine ev_r_aload_n (pc := 104) (k := 0) (v := .ref 6) trivial (by decide +kernel) (by rfl) ?_
            refine ev_r_getC (pc := 105) (y := 11) (ci := 1) (f := 0) (fin := 1) (k' := 7) (by decide +kernel) (by decide +kernel) (by exact ev_ob_6) rfl rfl ?_
            refine ev_r_aload_n (pc := 108) (k := 0) (v := .ref 6) trivial (by decide +kernel) (by rfl) ?_
            refine ev_r_getI (pc := 109) (y := 47) (ci := 1) (f := 7) (fin := 0) (by decide +kernel) (by decide +kernel) (by exact ev_ob_6) rfl ?_
            intro x22 hx22
            refine ev_r_dup2 (pc := 112) rfl rfl (by decide +kernel) ?_
            refine ev_r_lald (pc := 113) hx22 (by decide +kernel) (by exact ev_ab_7) ?_
            intro y23
            refine ev_r_aload_n (pc := 114) (k := 0) (v := .ref 6) trivial (by decide +kernel) (by rfl) ?_
            refine ev_r_getC (pc := 115) (y := 18) (ci := 1) (f := 2) (fin := 1) (k' := 9) (by decide +kernel) (by decide +kernel) (by exact ev_ob_6) rfl rfl ?_
            refine ev_r_aload_n (pc := 118) (k := 0) (v := .ref 6) trivial (by decide +kernel) (by rfl) ?_
            refine ev_r_getI (pc := 119) (y := 47) (ci := 1) (f := 7) (fin := 0) (by decide +kernel) (by decide +kernel) (by exact ev_ob_6) rfl ?_
            intro x24 hx24
            refine ev_r_lald (pc := 122) hx24 (by decide +kernel) (by exact ev_ab_9) ?_
            intro y25
            refine ev_r_ldc2 (pc := 123) (y := 93) (k := -1) (by decide +kernel) (by decide +kernel) ?_
            refine ev_r_toL (pc := 126) (i := .lxor) (len := 1) (pc' := 127) (by decide +kernel) rfl ?_
            intro y26
            refine ev_r_toL (pc := 127) (i := .land) (len := 1) (pc' := 128) (by decide +kernel) rfl ?_
            intro y27
            refine ev_r_last (pc := 128) hx22 (by decide +kernel) (by exact ev_ab_7) ?_
            intro s28
            refine ev_r_aload_n (pc := 129) (k := 0) (v := .ref 6) trivial (by decide +kernel) (by rfl) ?_
            refine ev_r_getC (pc := 130) (y := 15) (ci := 1) (f := 1) (fin := 1) (k' := 8) (by decide +kernel) (by decide +kernel) (by exact ev_ob_6) rfl rfl ?_
            refine ev_r_aload_n (pc := 133) (k := 0) (v := .ref 6) trivial (by decide +kernel) (by rfl) ?_
            refine ev_r_getI (pc := 134) (y := 47) (ci := 1) (f := 7) (fin := 0) (by decide +kernel) (by decide +kernel) (by exact ev_ob_6) rfl ?_
            intro x29 hx29
            refine ev_r_dup2 (pc := 137) rfl rfl (by decide +kernel) ?_
            refine ev_r_lald (pc := 138) hx29 (by decide +kernel) (by exact ev_ab_8) ?_
            intro y30
            refine ev_r_aload_n (pc := 139) (k := 0) (v := .ref 6) trivial (by decide +kernel) (by rfl) ?_
            refine ev_r_getC (pc := 140) (y := 21) (ci := 1) (f := 3) (fin := 1) (k' := 10) (by decide +kernel) (by decide +kernel) (by exact ev_ob_6) rfl rfl ?_
            refine ev_r_aload_n (pc := 143) (k := 0) (v := .ref 6) trivial (by decide +kernel) (by rfl) ?_
            refine ev_r_getI (pc := 144) (y := 47) (ci := 1) (f := 7) (fin := 0) (by decide +kernel) (by decide +kernel) (by exact ev_ob_6) rfl ?_
            intro x31 hx31
            refine ev_r_lald (pc := 147) hx31 (by decide +kernel) (by exact ev_ab_10) ?_
            intro y32
            refine ev_r_ldc2 (pc := 148) (y := 93) (k := -1) (by decide +kernel) (by decide +kernel) ?_
            refine ev_r_toL (pc := 151) (i := .lxor) (len := 1) (pc' := 152) (by decide +kernel) rfl ?_
            intro y33
            refine ev_r_toL (pc := 152) (i := .land) (len := 1) (pc' := 153) (by decide +kernel) rfl ?_
            intro y34
            refine ev_r_last (pc := 153) hx29 (by decide +kernel) (by exact ev_ab_8) ?_
            intro s35
            refine ev_r_goto (pc := 154) (o := 39) (t := 193) (by decide +kernel) (by decide +kernel) ?_
            refine ev_r_iconst (pc := 193) (k := 1) (by decide +kernel) ?_
            exact ev_r_ireturn (pc := 194) (x := 1) (v := Int32.ofInt 1) (ty := .boolean) (by decide : ev_bl 1) (by decide +kernel) (by decide +kernel) (ev_ret_bl (by decide : ev_bl 1)) rfl
        · intro c10
          refine ev_r_aload_n (pc := 45) (k := 0) (v := .ref 6) trivial (by decide +kernel) (by rfl) ?_
          refine ev_r_getC (pc := 46) (y := 11) (ci := 1) (f := 0) (fin := 1) (k' := 7) (by decide +kernel) (by decide +kernel) (by exact ev_ob_6) rfl rfl ?_
          refine ev_r_aload_n (pc := 49) (k := 0) (v := .ref 6) trivial (by decide +kernel) (by rfl) ?_
          refine ev_r_getI (pc := 50) (y := 47) (ci := 1) (f := 7) (fin := 0) (by decide +kernel) (by decide +kernel) (by exact ev_ob_6) rfl ?_
          intro x36 hx36
          refine ev_r_dup2 (pc := 53) rfl rfl (by decide +kernel) ?_
          refine ev_r_lald (pc := 54) hx36 (by decide +kernel) (by exact ev_ab_7) ?_
          intro y37
          refine ev_r_aload_n (pc := 55) (k := 0) (v := .ref 6) trivial (by decide +kernel) (by rfl) ?_
          refine ev_r_getC (pc := 56) (y := 18) (ci := 1) (f := 2) (fin := 1) (k' := 9) (by decide +kernel) (by decide +kernel) (by exact ev_ob_6) rfl rfl ?_
          refine ev_r_aload_n (pc := 59) (k := 0) (v := .ref 6) trivial (by decide +kernel) (by rfl) ?_
          refine ev_r_getI (pc := 60) (y := 47) (ci := 1) (f := 7) (fin := 0) (by decide +kernel) (by decide +kernel) (by exact ev_ob_6) rfl ?_
          intro x38 hx38
          refine ev_r_lald (pc := 63) hx38 (by decide +kernel) (by exact ev_ab_9) ?_
          intro y39
          refine ev_r_toL (pc := 64) (i := .land) (len := 1) (pc' := 65) (by decide +kernel) rfl ?_
          intro y40
          refine ev_r_last (pc := 65) hx36 (by decide +kernel) (by exact ev_ab_7) ?_
          intro s41
          refine ev_r_aload_n (pc := 66) (k := 0) (v := .ref 6) trivial (by decide +kernel) (by rfl) ?_
          refine ev_r_getC (pc := 67) (y := 15) (ci := 1) (f := 1) (fin := 1) (k' := 8) (by decide +kernel) (by decide +kernel) (by exact ev_ob_6) rfl rfl ?_
          refine ev_r_aload_n (pc := 70) (k := 0) (v := .ref 6) trivial (by decide +kernel) (by rfl) ?_
          refine ev_r_getI (pc := 71) (y := 47) (ci := 1) (f := 7) (fin := 0) (by decide +kernel) (by decide +kernel) (by exact ev_ob_6) rfl ?_
          intro x42 hx42
          refine ev_r_dup2 (pc := 74) rfl rfl (by decide +kernel) ?_
          refine ev_r_lald (pc := 75) hx42 (by decide +kernel) (by exact ev_ab_8) ?_
          intro y43
          refine ev_r_aload_n (pc := 76) (k := 0) (v := .ref 6) trivial (by decide +kernel) (by rfl) ?_
          refine ev_r_getC (pc := 77) (y := 21) (ci := 1) (f := 3) (fin := 1) (k' := 10) (by decide +kernel) (by decide +kernel) (by exact ev_ob_6) rfl rfl ?_
          refine ev_r_aload_n (pc := 80) (k := 0) (v := .ref 6) trivial (by decide +kernel) (by rfl) ?_
          refine ev_r_getI (pc := 81) (y := 47) (ci := 1) (f := 7) (fin := 0) (by decide +kernel) (by decide +kernel) (by exact ev_ob_6) rfl ?_
          intro x44 hx44
          refine ev_r_lald (pc := 84) hx44 (by decide +kernel) (by exact ev_ab_10) ?_
          intro y45
          refine ev_r_toL (pc := 85) (i := .land) (len := 1) (pc' := 86) (by decide +kernel) rfl ?_
          intro y46
          refine ev_r_last (pc := 86) hx42 (by decide +kernel) (by exact ev_ab_8) ?_
          intro s47
          refine ev_r_goto (pc := 87) (o := 106) (t := 193) (by decide +kernel) (by decide +kernel) ?_
          refine ev_r_iconst (pc := 193) (k := 1) (by decide +kernel) ?_
          exact ev_r_ireturn (pc := 194) (x := 1) (v := Int32.ofInt 1) (ty := .boolean) (by decide : ev_bl 1) (by decide +kernel) (by decide +kernel) (ev_ret_bl (by decide : ev_bl 1)) rfl
      · intro c7
        refine ev_r_iconst (pc := 29) (k := 0) (by decide +kernel) ?_
        exact ev_r_ireturn (pc := 30) (x := 0) (v := Int32.ofInt 0) (ty := .boolean) (by decide : ev_bl 0) (by decide +kernel) (by decide +kernel) (ev_ret_bl (by decide : ev_bl 0)) rfl
/-- MendBench$ClassReader.put(JJ)Z -/
def jm_22 (Q : Nat) (a0 : Int64) (a1 : Int64) (S : ev_St) : Option ((Int) × ev_St) := ev_b (S.1 6 7) fun x1 => if x1 < 0 then (some (0, S)) else (ev_b (S.1 6 7) fun x3 => if x3 < 128 then (ev_b (S.1 6 7) fun x5 => ev_if ((0 : Int) ≤ x5 ∧ x5 < (ev_aln 9 : Int)) (ev_b (S.2.1 9 (Int.toNat x5)) fun y6 => ev_b (y6 ||| a0) fun y7 => ev_if ((0 : Int) ≤ x5 ∧ x5 < (ev_aln 9 : Int)) (ev_b (ev_pL S 9 (Int.toNat x5) y7) fun s8 => ev_b (s8.1 6 7) fun x9 => ev_if ((0 : Int) ≤ x9 ∧ x9 < (ev_aln 10 : Int)) (ev_b (s8.2.1 10 (Int.toNat x9)) fun y10 => ev_b (y10 ||| a1) fun y11 => ev_if ((0 : Int) ≤ x9 ∧ x9 < (ev_aln 10 : Int)) (ev_b (ev_pL s8 10 (Int.toNat x9) y11) fun s12 => ev_b (s12.1 6 7) fun x13 => ev_if ((0 : Int) ≤ x13 ∧ x13 < (ev_aln 11 : Int)) (ev_b (ev_pI s12 11 (Int.toNat x13) 1) fun s14 => some (1, s14))))))) else (some (0, S)))
theorem jt_22 (d : Nat) (hd : 1 ≤ d) (Q : Nat) (a0 : Int64) (a1 : Int64)  (S : ev_St) (x : Int) (S' : ev_St) (hJ : jm_22 Q a0 a1 S = some (x, S')) : ev_Ref d 22 [.ref 6, .long a0, .long a1] S (ev_eI x) S' (ev_bl x) := by
  obtain ⟨d, rfl⟩ : ∃ e, d = e + 1 := ⟨d - 1, by omega⟩
  refine ev_ref_of (P := ev_bl) (lv := [(0, .ref 6), (1, .long a0), (3, .long a1)]) (by decide +kernel) (by (try simp only [ev_sum, ev_nv_cat]); first | done | rfl) (by (try simp only [lv_args, ev_nv_cat]); first | done | rfl) ?_ x S' hJ
  unfold jm_22
  refine ev_r_aload_n (pc := 0) (k := 0) (v := .ref 6) trivial (by decide +kernel) (by rfl) ?_
  refine ev_r_getI (pc := 1) (y := 47) (ci := 1) (f := 7) (fin := 0) (by decide +kernel) (by decide +kernel) (by exact ev_ob_6) rfl ?_
  intro x1 hx1
  refine ev_r_if (pc := 4) (q := .lt) (o := 13) (t := 17) (c := x1 < 0) (by decide +kernel) (ev_k_lt hx1 ev_rng0) (by decide +kernel) ?_ ?_
  · intro c2
    refine ev_r_iconst (pc := 17) (k := 0) (by decide +kernel) ?_
    exact ev_r_ireturn (pc := 18) (x := 0) (v := Int32.ofInt 0) (ty := .boolean) (by decide : ev_bl 0) (by decide +kernel) (by decide +kernel) (ev_ret_bl (by decide : ev_bl 0)) rfl
  · intro c2
    refine ev_r_aload_n (pc := 7) (k := 0) (v := .ref 6) trivial (by decide +kernel) (by rfl) ?_
    refine ev_r_getI (pc := 8) (y := 47) (ci := 1) (f := 7) (fin := 0) (by decide +kernel) (by decide +kernel) (by exact ev_ob_6) rfl ?_
    intro x3 hx3
    refine ev_r_sipush (pc := 11) (k := 128) (by decide +kernel) (by decide +kernel) ?_
    refine ev_r_icmp (pc := 14) (q := .lt) (o := 5) (t := 19) (c := x3 < 128) (by decide +kernel) (ev_k_lt hx3 (by decide)) (by decide +kernel) ?_ ?_
    · intro c4
      refine ev_r_aload_n (pc := 19) (k := 0) (v := .ref 6) trivial (by decide +kernel) (by rfl) ?_
      refine ev_r_getC (pc := 20) (y := 18) (ci := 1) (f := 2) (fin := 1) (k' := 9) (by decide +kernel) (by decide +kernel) (by exact ev_ob_6) rfl rfl ?_
      refine ev_r_aload_n (pc := 23) (k := 0) (v := .ref 6) trivial (by decide +kernel) (by rfl) ?_
      refine ev_r_getI (pc := 24) (y := 47) (ci := 1) (f := 7) (fin := 0) (by decide +kernel) (by decide +kernel) (by exact ev_ob_6) rfl ?_
      intro x5 hx5
      refine ev_r_dup2 (pc := 27) rfl rfl (by decide +kernel) ?_
      refine ev_r_lald (pc := 28) hx5 (by decide +kernel) (by exact ev_ab_9) ?_
      intro y6
      refine ev_r_lload_n (pc := 29) (k := 1) (v := a0) (by decide +kernel) (by rfl) ?_
      refine ev_r_toL (pc := 30) (i := .lor) (len := 1) (pc' := 31) (by decide +kernel) rfl ?_
      intro y7
      refine ev_r_last (pc := 31) hx5 (by decide +kernel) (by exact ev_ab_9) ?_
      intro s8
      refine ev_r_aload_n (pc := 32) (k := 0) (v := .ref 6) trivial (by decide +kernel) (by rfl) ?_
      refine ev_r_getC (pc := 33) (y := 21) (ci := 1) (f := 3) (fin := 1) (k' := 10) (by decide +kernel) (by decide +kernel) (by exact ev_ob_6) rfl rfl ?_
      refine ev_r_aload_n (pc := 36) (k := 0) (v := .ref 6) trivial (by decide +kernel) (by rfl) ?_
      refine ev_r_getI (pc := 37) (y := 47) (ci := 1) (f := 7) (fin := 0) (by decide +kernel) (by decide +kernel) (by exact ev_ob_6) rfl ?_
      intro x9 hx9
      refine ev_r_dup2 (pc := 40) rfl rfl (by decide +kernel) ?_
      refine ev_r_lald (pc := 41) hx9 (by decide +kernel) (by exact ev_ab_10) ?_
      intro y10
      refine ev_r_lload_n (pc := 42) (k := 3) (v := a1) (by decide +kernel) (by rfl) ?_
      refine ev_r_toL (pc := 43) (i := .lor) (len := 1) (pc' := 44) (by decide +kernel) rfl ?_
      intro y11
      refine ev_r_last (pc := 44) hx9 (by decide +kernel) (by exact ev_ab_10) ?_
      intro s12
      refine ev_r_aload_n (pc := 45) (k := 0) (v := .ref 6) trivial (by decide +kernel) (by rfl) ?_
      refine ev_r_getC (pc := 46) (y := 24) (ci := 1) (f := 4) (fin := 1) (k' := 11) (by decide +kernel) (by decide +kernel) (by exact ev_ob_6) rfl rfl ?_
      refine ev_r_aload_n (pc := 49) (k := 0) (v := .ref 6) trivial (by decide +kernel) (by rfl) ?_
      refine ev_r_getI (pc := 50) (y := 47) (ci := 1) (f := 7) (fin := 0) (by decide +kernel) (by decide +kernel) (by exact ev_ob_6) rfl ?_
      intro x13 hx13
      refine ev_r_iconst (pc := 53) (k := 1) (by decide +kernel) ?_
      refine ev_r_bast (pc := 54) (ty := .boolean) (Or.inr rfl) (ev_nar_bl (by decide : ev_bl 1)) (by decide) hx13 (by decide +kernel) (by exact ev_ab_11) ?_
      intro s14
      refine ev_r_iconst (pc := 55) (k := 1) (by decide +kernel) ?_
      exact ev_r_ireturn (pc := 56) (x := 1) (v := Int32.ofInt 1) (ty := .boolean) (by decide : ev_bl 1) (by decide +kernel) (by decide +kernel) (ev_ret_bl (by decide : ev_bl 1)) rfl
    · intro c4
      refine ev_r_iconst (pc := 17) (k := 0) (by decide +kernel) ?_
      exact ev_r_ireturn (pc := 18) (x := 0) (v := Int32.ofInt 0) (ty := .boolean) (by decide : ev_bl 0) (by decide +kernel) (by decide +kernel) (ev_ret_bl (by decide : ev_bl 0)) rfl
/-- MendBench$ClassReader.end()Z -/
def jm_25 (Q : Nat)  (S : ev_St) : Option ((Int) × ev_St) := ev_bd (jm_24 Q  S) fun x2 s1 => if x2 ≠ 0 then (ev_b (s1.1 6 7) fun x4 => ev_if ((0 : Int) ≤ x4 ∧ x4 < (ev_aln 12 : Int)) (ev_b (s1.1 12 (Int.toNat x4)) fun x5 => ev_jn (fun (y6 : Int64) (s9 : ev_St) => ev_b (ev_pL s9 6 11 y6) fun s10 => ev_b (s10.1 6 7) fun x11 => ev_if ((0 : Int) ≤ x11 ∧ x11 < (ev_aln 12 : Int)) (ev_b (s10.1 12 (Int.toNat x11)) fun x12 => ev_jn (fun (y13 : Int64) (s16 : ev_St) => ev_b (ev_pL s16 6 12 y13) fun s17 => ev_b (s17.1 6 7) fun x18 => ev_ck (x18 - 1) fun x19 => ev_b (ev_pI s17 6 7 x19) fun s20 => ev_b (s20.1 6 7) fun x21 => if x21 < 0 then (some (1, s20)) else (ev_b (s20.2.1 6 11) fun y23 => ev_b (s20.2.1 6 12) fun y24 => ev_bd (jm_22 Q y23 y24 s20) fun x26 s25 => if x26 = 0 then (some (0, s25)) else (some (1, s25)))) fun K96 => if x12 = 0 then (ev_b (s10.1 6 7) fun x29 => ev_if ((0 : Int) ≤ x29 ∧ x29 < (ev_aln 8 : Int)) (ev_b (s10.2.1 8 (Int.toNat x29)) fun y30 => K96 y30 s10)) else (ev_b (s10.1 6 7) fun x31 => ev_if ((0 : Int) ≤ x31 ∧ x31 < (ev_aln 8 : Int)) (ev_b (s10.2.1 8 (Int.toNat x31)) fun y32 => ev_b (y32 ^^^ (-1)) fun y33 => ev_b ((9223372036854775807) &&& y33) fun y34 => K96 y34 s10)))) fun K51 => if x5 = 0 then (ev_b (s1.1 6 7) fun x36 => ev_if ((0 : Int) ≤ x36 ∧ x36 < (ev_aln 7 : Int)) (ev_b (s1.2.1 7 (Int.toNat x36)) fun y37 => K51 y37 s1)) else (ev_b (s1.1 6 7) fun x38 => ev_if ((0 : Int) ≤ x38 ∧ x38 < (ev_aln 7 : Int)) (ev_b (s1.2.1 7 (Int.toNat x38)) fun y39 => ev_b (y39 ^^^ (-1)) fun y40 => ev_b ((-4294966272) &&& y40) fun y41 => K51 y41 s1)))) else (some (0, s1))
theorem jt_25 (d : Nat) (hd : 2 ≤ d) (Q : Nat)   (S : ev_St) (x : Int) (S' : ev_St) (hJ : jm_25 Q  S = some (x, S')) : ev_Ref d 25 [.ref 6] S (ev_eI x) S' (ev_bl x) := by
  obtain ⟨d, rfl⟩ : ∃ e, d = e + 1 := ⟨d - 1, by omega⟩
  refine ev_ref_of (P := ev_bl) (lv := [(0, .ref 6)]) (by decide +kernel) (by (try simp only [ev_sum, ev_nv_cat]); first | done | rfl) (by (try simp only [lv_args, ev_nv_cat]); first | done | rfl) ?_ x S' hJ
  unfold jm_25
  refine ev_r_aload_n (pc := 0) (k := 0) (v := .ref 6) trivial (by decide +kernel) (by rfl) ?_
  refine ev_r_virt (pc := 1) (y := 90) (mi := 24) (na := 0) (k := 6) (as := []) (rest := []) (encc := ev_oI) (Q := ev_bl) (fun x S1 h => jt_24 d (by omega) Q   S x S1 h) (by exact ev_ob_6) (by decide +kernel) (by decide +kernel) (by decide +kernel) (by decide +kernel) rfl (by (try simp only [ev_sum, ev_nv_cat]); first | done | rfl) ?_
  intro x2 s1 hx2
  replace hx2 := ev_bl_rng hx2
  show ev_w _ _ _ _ _ [.int (Int32.ofInt x2)] _ _ _ _
  refine ev_r_if (pc := 4) (q := .ne) (o := 5) (t := 9) (c := x2 ≠ 0) (by decide +kernel) (ev_k_ne hx2 ev_rng0) (by decide +kernel) ?_ ?_
  · intro c3
    refine ev_r_aload_n (pc := 9) (k := 0) (v := .ref 6) trivial (by decide +kernel) (by rfl) ?_
    refine ev_r_aload_n (pc := 10) (k := 0) (v := .ref 6) trivial (by decide +kernel) (by rfl) ?_
    refine ev_r_getC (pc := 11) (y := 28) (ci := 1) (f := 5) (fin := 1) (k' := 12) (by decide +kernel) (by decide +kernel) (by exact ev_ob_6) rfl rfl ?_
    refine ev_r_aload_n (pc := 14) (k := 0) (v := .ref 6) trivial (by decide +kernel) (by rfl) ?_
    refine ev_r_getI (pc := 15) (y := 47) (ci := 1) (f := 7) (fin := 0) (by decide +kernel) (by decide +kernel) (by exact ev_ob_6) rfl ?_
    intro x4 hx4
    refine ev_r_bald (pc := 18) (ty := .boolean) (Or.inr rfl) hx4 (by decide +kernel) (by exact ev_ab_12) ?_
    intro x5 hx5
    refine ev_r_jn (Q := fun K => ∀ (y6 : Int64), ∀ (s9 : ev_St) (w7 : List (Nat × Value)), ev_lk w7 0 = some (.ref 6) → ev_w none (ev_Mof 25) d 51 w7 [.long y6, .ref 6] s9 (K y6 s9) ev_eI ev_bl) ?_ ?_
    · intro y6 s9 w7 e8
      refine ev_r_putL (pc := 51) (y := 97) (ci := 1) (f := 11) (by decide +kernel) (by decide +kernel) (by exact ev_ob_6) rfl rfl ?_
      intro s10
      refine ev_r_aload_n (pc := 54) (k := 0) (v := .ref 6) trivial (by decide +kernel) (by exact e8) ?_
      refine ev_r_aload_n (pc := 55) (k := 0) (v := .ref 6) trivial (by decide +kernel) (by exact e8) ?_
      refine ev_r_getC (pc := 56) (y := 28) (ci := 1) (f := 5) (fin := 1) (k' := 12) (by decide +kernel) (by decide +kernel) (by exact ev_ob_6) rfl rfl ?_
      refine ev_r_aload_n (pc := 59) (k := 0) (v := .ref 6) trivial (by decide +kernel) (by exact e8) ?_
      refine ev_r_getI (pc := 60) (y := 47) (ci := 1) (f := 7) (fin := 0) (by decide +kernel) (by decide +kernel) (by exact ev_ob_6) rfl ?_
      intro x11 hx11
      refine ev_r_bald (pc := 63) (ty := .boolean) (Or.inr rfl) hx11 (by decide +kernel) (by exact ev_ab_12) ?_
      intro x12 hx12
      refine ev_r_jn (Q := fun K => ∀ (y13 : Int64), ∀ (s16 : ev_St) (w14 : List (Nat × Value)), ev_lk w14 0 = some (.ref 6) → ev_w none (ev_Mof 25) d 96 w14 [.long y13, .ref 6] s16 (K y13 s16) ev_eI ev_bl) ?_ ?_
      · intro y13 s16 w14 e15
        refine ev_r_putL (pc := 96) (y := 103) (ci := 1) (f := 12) (by decide +kernel) (by decide +kernel) (by exact ev_ob_6) rfl rfl ?_
        intro s17
        refine ev_r_aload_n (pc := 99) (k := 0) (v := .ref 6) trivial (by decide +kernel) (by exact e15) ?_
        refine ev_r_dup (pc := 100) rfl (by decide +kernel) ?_
        refine ev_r_getI (pc := 101) (y := 47) (ci := 1) (f := 7) (fin := 0) (by decide +kernel) (by decide +kernel) (by exact ev_ob_6) rfl ?_
        intro x18 hx18
        refine ev_r_iconst (pc := 104) (k := 1) (by decide +kernel) ?_
        refine ev_r_isub (pc := 105) (by decide +kernel) ?_
        intro x19 hx19
        refine ev_r_putI (pc := 106) (y := 47) (ci := 1) (f := 7) hx19 (by decide +kernel) (by decide +kernel) (by exact ev_ob_6) rfl rfl ?_
        intro s20
        refine ev_r_aload_n (pc := 109) (k := 0) (v := .ref 6) trivial (by decide +kernel) (by exact e15) ?_
        refine ev_r_getI (pc := 110) (y := 47) (ci := 1) (f := 7) (fin := 0) (by decide +kernel) (by decide +kernel) (by exact ev_ob_6) rfl ?_
        intro x21 hx21
        refine ev_r_if (pc := 113) (q := .lt) (o := 18) (t := 131) (c := x21 < 0) (by decide +kernel) (ev_k_lt hx21 ev_rng0) (by decide +kernel) ?_ ?_
        · intro c22
          refine ev_r_iconst (pc := 131) (k := 1) (by decide +kernel) ?_
          refine ev_r_goto (pc := 132) (o := 4) (t := 136) (by decide +kernel) (by decide +kernel) ?_
          exact ev_r_ireturn (pc := 136) (x := 1) (v := Int32.ofInt 1) (ty := .boolean) (by decide : ev_bl 1) (by decide +kernel) (by decide +kernel) (ev_ret_bl (by decide : ev_bl 1)) rfl
        · intro c22
          refine ev_r_aload_n (pc := 116) (k := 0) (v := .ref 6) trivial (by decide +kernel) (by exact e15) ?_
          refine ev_r_aload_n (pc := 117) (k := 0) (v := .ref 6) trivial (by decide +kernel) (by exact e15) ?_
          refine ev_r_getL (pc := 118) (y := 97) (ci := 1) (f := 11) (fin := 0) (by decide +kernel) (by decide +kernel) (by exact ev_ob_6) rfl ?_
          intro y23
          refine ev_r_aload_n (pc := 121) (k := 0) (v := .ref 6) trivial (by decide +kernel) (by exact e15) ?_
          refine ev_r_getL (pc := 122) (y := 103) (ci := 1) (f := 12) (fin := 0) (by decide +kernel) (by decide +kernel) (by exact ev_ob_6) rfl ?_
          intro y24
          refine ev_r_virt (pc := 125) (y := 83) (mi := 22) (na := 2) (k := 6) (as := [.long y23, .long y24]) (rest := []) (encc := ev_oI) (Q := ev_bl) (fun x S1 h => jt_22 d (by omega) Q y23 y24  s20 x S1 h) (by exact ev_ob_6) (by decide +kernel) (by decide +kernel) (by decide +kernel) (by decide +kernel) rfl (by (try simp only [ev_sum, ev_nv_cat]); first | done | rfl) ?_
          intro x26 s25 hx26
          replace hx26 := ev_bl_rng hx26
          show ev_w _ _ _ _ _ [.int (Int32.ofInt x26)] _ _ _ _
          refine ev_r_if (pc := 128) (q := .eq) (o := 7) (t := 135) (c := x26 = 0) (by decide +kernel) (ev_k_eq hx26 ev_rng0) (by decide +kernel) ?_ ?_
          · intro c27
            refine ev_r_iconst (pc := 135) (k := 0) (by decide +kernel) ?_
            exact ev_r_ireturn (pc := 136) (x := 0) (v := Int32.ofInt 0) (ty := .boolean) (by decide : ev_bl 0) (by decide +kernel) (by decide +kernel) (ev_ret_bl (by decide : ev_bl 0)) rfl
          · intro c27
            refine ev_r_iconst (pc := 131) (k := 1) (by decide +kernel) ?_
            refine ev_r_goto (pc := 132) (o := 4) (t := 136) (by decide +kernel) (by decide +kernel) ?_
            exact ev_r_ireturn (pc := 136) (x := 1) (v := Int32.ofInt 1) (ty := .boolean) (by decide : ev_bl 1) (by decide +kernel) (by decide +kernel) (ev_ret_bl (by decide : ev_bl 1)) rfl
      · intro K96 hK96
        refine ev_r_if (pc := 64) (q := .eq) (o := 23) (t := 87) (c := x12 = 0) (by decide +kernel) (ev_k_eq hx12 ev_rng0) (by decide +kernel) ?_ ?_
        · intro c28
          refine ev_r_aload_n (pc := 87) (k := 0) (v := .ref 6) trivial (by decide +kernel) (by exact e8) ?_
          refine ev_r_getC (pc := 88) (y := 15) (ci := 1) (f := 1) (fin := 1) (k' := 8) (by decide +kernel) (by decide +kernel) (by exact ev_ob_6) rfl rfl ?_
          refine ev_r_aload_n (pc := 91) (k := 0) (v := .ref 6) trivial (by decide +kernel) (by exact e8) ?_
          refine ev_r_getI (pc := 92) (y := 47) (ci := 1) (f := 7) (fin := 0) (by decide +kernel) (by decide +kernel) (by exact ev_ob_6) rfl ?_
          intro x29 hx29
          refine ev_r_lald (pc := 95) hx29 (by decide +kernel) (by exact ev_ab_8) ?_
          intro y30
          exact hK96 y30 s10 _ (by exact e8)
        · intro c28
          refine ev_r_ldc2 (pc := 67) (y := 101) (k := 9223372036854775807) (by decide +kernel) (by decide +kernel) ?_
          refine ev_r_aload_n (pc := 70) (k := 0) (v := .ref 6) trivial (by decide +kernel) (by exact e8) ?_
          refine ev_r_getC (pc := 71) (y := 15) (ci := 1) (f := 1) (fin := 1) (k' := 8) (by decide +kernel) (by decide +kernel) (by exact ev_ob_6) rfl rfl ?_
          refine ev_r_aload_n (pc := 74) (k := 0) (v := .ref 6) trivial (by decide +kernel) (by exact e8) ?_
          refine ev_r_getI (pc := 75) (y := 47) (ci := 1) (f := 7) (fin := 0) (by decide +kernel) (by decide +kernel) (by exact ev_ob_6) rfl ?_
          intro x31 hx31
          refine ev_r_lald (pc := 78) hx31 (by decide +kernel) (by exact ev_ab_8) ?_
          intro y32
          refine ev_r_ldc2 (pc := 79) (y := 93) (k := -1) (by decide +kernel) (by decide +kernel) ?_
          refine ev_r_toL (pc := 82) (i := .lxor) (len := 1) (pc' := 83) (by decide +kernel) rfl ?_
          intro y33
          refine ev_r_toL (pc := 83) (i := .land) (len := 1) (pc' := 84) (by decide +kernel) rfl ?_
          intro y34
          refine ev_r_goto (pc := 84) (o := 12) (t := 96) (by decide +kernel) (by decide +kernel) ?_
          exact hK96 y34 s10 _ (by exact e8)
    · intro K51 hK51
      refine ev_r_if (pc := 19) (q := .eq) (o := 23) (t := 42) (c := x5 = 0) (by decide +kernel) (ev_k_eq hx5 ev_rng0) (by decide +kernel) ?_ ?_
      · intro c35
        refine ev_r_aload_n (pc := 42) (k := 0) (v := .ref 6) trivial (by decide +kernel) (by rfl) ?_
        refine ev_r_getC (pc := 43) (y := 11) (ci := 1) (f := 0) (fin := 1) (k' := 7) (by decide +kernel) (by decide +kernel) (by exact ev_ob_6) rfl rfl ?_
        refine ev_r_aload_n (pc := 46) (k := 0) (v := .ref 6) trivial (by decide +kernel) (by rfl) ?_
        refine ev_r_getI (pc := 47) (y := 47) (ci := 1) (f := 7) (fin := 0) (by decide +kernel) (by decide +kernel) (by exact ev_ob_6) rfl ?_
        intro x36 hx36
        refine ev_r_lald (pc := 50) hx36 (by decide +kernel) (by exact ev_ab_7) ?_
        intro y37
        exact hK51 y37 s1 _ (by rfl)
      · intro c35
        refine ev_r_ldc2 (pc := 22) (y := 95) (k := -4294966272) (by decide +kernel) (by decide +kernel) ?_
        refine ev_r_aload_n (pc := 25) (k := 0) (v := .ref 6) trivial (by decide +kernel) (by rfl) ?_
        refine ev_r_getC (pc := 26) (y := 11) (ci := 1) (f := 0) (fin := 1) (k' := 7) (by decide +kernel) (by decide +kernel) (by exact ev_ob_6) rfl rfl ?_
        refine ev_r_aload_n (pc := 29) (k := 0) (v := .ref 6) trivial (by decide +kernel) (by rfl) ?_
        refine ev_r_getI (pc := 30) (y := 47) (ci := 1) (f := 7) (fin := 0) (by decide +kernel) (by decide +kernel) (by exact ev_ob_6) rfl ?_
        intro x38 hx38
        refine ev_r_lald (pc := 33) hx38 (by decide +kernel) (by exact ev_ab_7) ?_
        intro y39
        refine ev_r_ldc2 (pc := 34) (y := 93) (k := -1) (by decide +kernel) (by decide +kernel) ?_
        refine ev_r_toL (pc := 37) (i := .lxor) (len := 1) (pc' := 38) (by decide +kernel) rfl ?_
        intro y40
        refine ev_r_toL (pc := 38) (i := .land) (len := 1) (pc' := 39) (by decide +kernel) rfl ?_
        intro y41
        refine ev_r_goto (pc := 39) (o := 12) (t := 51) (by decide +kernel) (by decide +kernel) ?_
        exact hK51 y41 s1 _ (by rfl)
  · intro c3
    refine ev_r_iconst (pc := 7) (k := 0) (by decide +kernel) ?_
    exact ev_r_ireturn (pc := 8) (x := 0) (v := Int32.ofInt 0) (ty := .boolean) (by decide : ev_bl 0) (by decide +kernel) (by decide +kernel) (ev_ret_bl (by decide : ev_bl 0)) rfl
/-- MendBench$ClassReader.readJoint(I)Z -/
def jm_23 (Q : Nat) (a0 : Int) (S : ev_St) : Option ((Int) × ev_St) := ev_bd (jm_24 Q  S) fun x2 s1 => if x2 ≠ 0 then (ev_b (s1.1 6 7) fun x4 => ev_if ((0 : Int) ≤ x4 ∧ x4 < (ev_aln 13 : Int)) (ev_b (ev_pI s1 13 (Int.toNat x4) a0) fun s5 => ev_bd (jm_20 Q  s5) fun _ s6 => some (1, s6))) else (some (0, s1))
theorem jt_23 (d : Nat) (hd : 2 ≤ d) (Q : Nat) (a0 : Int) (ha0 : ev_rng a0) (S : ev_St) (x : Int) (S' : ev_St) (hJ : jm_23 Q a0 S = some (x, S')) : ev_Ref d 23 [.ref 6, .int (Int32.ofInt a0)] S (ev_eI x) S' (ev_bl x) := by
  obtain ⟨d, rfl⟩ : ∃ e, d = e + 1 := ⟨d - 1, by omega⟩
  refine ev_ref_of (P := ev_bl) (lv := [(0, .ref 6), (1, .int (Int32.ofInt a0))]) (by decide +kernel) (by (try simp only [ev_sum, ev_nv_cat]); first | done | rfl) (by (try simp only [lv_args, ev_nv_cat]); first | done | rfl) ?_ x S' hJ
  unfold jm_23
  refine ev_r_aload_n (pc := 0) (k := 0) (v := .ref 6) trivial (by decide +kernel) (by rfl) ?_
  refine ev_r_virt (pc := 1) (y := 90) (mi := 24) (na := 0) (k := 6) (as := []) (rest := []) (encc := ev_oI) (Q := ev_bl) (fun x S1 h => jt_24 d (by omega) Q   S x S1 h) (by exact ev_ob_6) (by decide +kernel) (by decide +kernel) (by decide +kernel) (by decide +kernel) rfl (by (try simp only [ev_sum, ev_nv_cat]); first | done | rfl) ?_
  intro x2 s1 hx2
  replace hx2 := ev_bl_rng hx2
  show ev_w _ _ _ _ _ [.int (Int32.ofInt x2)] _ _ _ _
  refine ev_r_if (pc := 4) (q := .ne) (o := 5) (t := 9) (c := x2 ≠ 0) (by decide +kernel) (ev_k_ne hx2 ev_rng0) (by decide +kernel) ?_ ?_
  · intro c3
    refine ev_r_aload_n (pc := 9) (k := 0) (v := .ref 6) trivial (by decide +kernel) (by rfl) ?_
    refine ev_r_getC (pc := 10) (y := 31) (ci := 1) (f := 6) (fin := 1) (k' := 13) (by decide +kernel) (by decide +kernel) (by exact ev_ob_6) rfl rfl ?_
    refine ev_r_aload_n (pc := 13) (k := 0) (v := .ref 6) trivial (by decide +kernel) (by rfl) ?_
    refine ev_r_getI (pc := 14) (y := 47) (ci := 1) (f := 7) (fin := 0) (by decide +kernel) (by decide +kernel) (by exact ev_ob_6) rfl ?_
    intro x4 hx4
    refine ev_r_iload_n (pc := 17) (k := 1) (v := Int32.ofInt a0) (by decide +kernel) (by rfl) ?_
    refine ev_r_iast (pc := 18) ha0 hx4 (by decide +kernel) (by exact ev_ab_13) ?_
    intro s5
    refine ev_r_aload_n (pc := 19) (k := 0) (v := .ref 6) trivial (by decide +kernel) (by rfl) ?_
    refine ev_r_virt (pc := 20) (y := 59) (mi := 20) (na := 0) (k := 6) (as := []) (rest := []) (encc := ev_oU) (Q := ev_PU) (fun x S1 h => jt_20 d (by omega) Q   s5 x S1 h) (by exact ev_ob_6) (by decide +kernel) (by decide +kernel) (by decide +kernel) (by decide +kernel) rfl (by (try simp only [ev_sum, ev_nv_cat]); first | done | rfl) ?_
    intro _ s6 _
    show ev_w _ _ _ _ _ [] _ _ _ _
    refine ev_r_iconst (pc := 23) (k := 1) (by decide +kernel) ?_
    exact ev_r_ireturn (pc := 24) (x := 1) (v := Int32.ofInt 1) (ty := .boolean) (by decide : ev_bl 1) (by decide +kernel) (by decide +kernel) (ev_ret_bl (by decide : ev_bl 1)) rfl
  · intro c3
    refine ev_r_iconst (pc := 7) (k := 0) (by decide +kernel) ?_
    exact ev_r_ireturn (pc := 8) (x := 0) (v := Int32.ofInt 0) (ty := .boolean) (by decide : ev_bl 0) (by decide +kernel) (by decide +kernel) (ev_ret_bl (by decide : ev_bl 0)) rfl
/-- MendBench.isKindLetter(I)Z -/
def jm_216 (Q : Nat) (a0 : Int) (S : ev_St) : Option ((Int) × ev_St) := if a0 = 100 then (some (1, S)) else (if a0 = 119 then (some (1, S)) else (if a0 = 115 then (some (1, S)) else (if a0 = 68 then (some (1, S)) else (if a0 = 87 then (some (1, S)) else (if a0 ≠ 83 then (some (0, S)) else (some (1, S)))))))
theorem jt_216 (d : Nat) (hd : 1 ≤ d) (Q : Nat) (a0 : Int) (ha0 : ev_rng a0) (S : ev_St) (x : Int) (S' : ev_St) (hJ : jm_216 Q a0 S = some (x, S')) : ev_Ref d 216 [.int (Int32.ofInt a0)] S (ev_eI x) S' (ev_bl x) := by
  obtain ⟨d, rfl⟩ : ∃ e, d = e + 1 := ⟨d - 1, by omega⟩
  refine ev_ref_of (P := ev_bl) (lv := [(0, .int (Int32.ofInt a0))]) (by decide +kernel) (by (try simp only [ev_sum, ev_nv_cat]); first | done | rfl) (by (try simp only [lv_args, ev_nv_cat]); first | done | rfl) ?_ x S' hJ
  unfold jm_216
  refine ev_r_iload_n (pc := 0) (k := 0) (v := Int32.ofInt a0) (by decide +kernel) (by rfl) ?_
  refine ev_r_bipush (pc := 1) (k := 100) (by decide +kernel) (by decide +kernel) ?_
  refine ev_r_icmp (pc := 3) (q := .eq) (o := 33) (t := 36) (c := a0 = 100) (by decide +kernel) (ev_k_eq ha0 (by decide)) (by decide +kernel) ?_ ?_
  · intro c1
    refine ev_r_iconst (pc := 36) (k := 1) (by decide +kernel) ?_
    refine ev_r_goto (pc := 37) (o := 4) (t := 41) (by decide +kernel) (by decide +kernel) ?_
    exact ev_r_ireturn (pc := 41) (x := 1) (v := Int32.ofInt 1) (ty := .boolean) (by decide : ev_bl 1) (by decide +kernel) (by decide +kernel) (ev_ret_bl (by decide : ev_bl 1)) rfl
  · intro c1
    refine ev_r_iload_n (pc := 6) (k := 0) (v := Int32.ofInt a0) (by decide +kernel) (by rfl) ?_
    refine ev_r_bipush (pc := 7) (k := 119) (by decide +kernel) (by decide +kernel) ?_
    refine ev_r_icmp (pc := 9) (q := .eq) (o := 27) (t := 36) (c := a0 = 119) (by decide +kernel) (ev_k_eq ha0 (by decide)) (by decide +kernel) ?_ ?_
    · intro c2
      refine ev_r_iconst (pc := 36) (k := 1) (by decide +kernel) ?_
      refine ev_r_goto (pc := 37) (o := 4) (t := 41) (by decide +kernel) (by decide +kernel) ?_
      exact ev_r_ireturn (pc := 41) (x := 1) (v := Int32.ofInt 1) (ty := .boolean) (by decide : ev_bl 1) (by decide +kernel) (by decide +kernel) (ev_ret_bl (by decide : ev_bl 1)) rfl
    · intro c2
      refine ev_r_iload_n (pc := 12) (k := 0) (v := Int32.ofInt a0) (by decide +kernel) (by rfl) ?_
      refine ev_r_bipush (pc := 13) (k := 115) (by decide +kernel) (by decide +kernel) ?_
      refine ev_r_icmp (pc := 15) (q := .eq) (o := 21) (t := 36) (c := a0 = 115) (by decide +kernel) (ev_k_eq ha0 (by decide)) (by decide +kernel) ?_ ?_
      · intro c3
        refine ev_r_iconst (pc := 36) (k := 1) (by decide +kernel) ?_
        refine ev_r_goto (pc := 37) (o := 4) (t := 41) (by decide +kernel) (by decide +kernel) ?_
        exact ev_r_ireturn (pc := 41) (x := 1) (v := Int32.ofInt 1) (ty := .boolean) (by decide : ev_bl 1) (by decide +kernel) (by decide +kernel) (ev_ret_bl (by decide : ev_bl 1)) rfl
      · intro c3
        refine ev_r_iload_n (pc := 18) (k := 0) (v := Int32.ofInt a0) (by decide +kernel) (by rfl) ?_
        refine ev_r_bipush (pc := 19) (k := 68) (by decide +kernel) (by decide +kernel) ?_
        refine ev_r_icmp (pc := 21) (q := .eq) (o := 15) (t := 36) (c := a0 = 68) (by decide +kernel) (ev_k_eq ha0 (by decide)) (by decide +kernel) ?_ ?_
        · intro c4
          refine ev_r_iconst (pc := 36) (k := 1) (by decide +kernel) ?_
          refine ev_r_goto (pc := 37) (o := 4) (t := 41) (by decide +kernel) (by decide +kernel) ?_
          exact ev_r_ireturn (pc := 41) (x := 1) (v := Int32.ofInt 1) (ty := .boolean) (by decide : ev_bl 1) (by decide +kernel) (by decide +kernel) (ev_ret_bl (by decide : ev_bl 1)) rfl
        · intro c4
          refine ev_r_iload_n (pc := 24) (k := 0) (v := Int32.ofInt a0) (by decide +kernel) (by rfl) ?_
          refine ev_r_bipush (pc := 25) (k := 87) (by decide +kernel) (by decide +kernel) ?_
          refine ev_r_icmp (pc := 27) (q := .eq) (o := 9) (t := 36) (c := a0 = 87) (by decide +kernel) (ev_k_eq ha0 (by decide)) (by decide +kernel) ?_ ?_
          · intro c5
            refine ev_r_iconst (pc := 36) (k := 1) (by decide +kernel) ?_
            refine ev_r_goto (pc := 37) (o := 4) (t := 41) (by decide +kernel) (by decide +kernel) ?_
            exact ev_r_ireturn (pc := 41) (x := 1) (v := Int32.ofInt 1) (ty := .boolean) (by decide : ev_bl 1) (by decide +kernel) (by decide +kernel) (ev_ret_bl (by decide : ev_bl 1)) rfl
          · intro c5
            refine ev_r_iload_n (pc := 30) (k := 0) (v := Int32.ofInt a0) (by decide +kernel) (by rfl) ?_
            refine ev_r_bipush (pc := 31) (k := 83) (by decide +kernel) (by decide +kernel) ?_
            refine ev_r_icmp (pc := 33) (q := .ne) (o := 7) (t := 40) (c := a0 ≠ 83) (by decide +kernel) (ev_k_ne ha0 (by decide)) (by decide +kernel) ?_ ?_
            · intro c6
              refine ev_r_iconst (pc := 40) (k := 0) (by decide +kernel) ?_
              exact ev_r_ireturn (pc := 41) (x := 0) (v := Int32.ofInt 0) (ty := .boolean) (by decide : ev_bl 0) (by decide +kernel) (by decide +kernel) (ev_ret_bl (by decide : ev_bl 0)) rfl
            · intro c6
              refine ev_r_iconst (pc := 36) (k := 1) (by decide +kernel) ?_
              refine ev_r_goto (pc := 37) (o := 4) (t := 41) (by decide +kernel) (by decide +kernel) ?_
              exact ev_r_ireturn (pc := 41) (x := 1) (v := Int32.ofInt 1) (ty := .boolean) (by decide : ev_bl 1) (by decide +kernel) (by decide +kernel) (ev_ret_bl (by decide : ev_bl 1)) rfl
/-- MendBench.kindLow(I)J -/
def jm_217 (Q : Nat) (a0 : Int) (S : ev_St) : Option ((Int64) × ev_St) := if a0 = 68 ∨ a0 = 87 then (some ((-287948905469967360), S)) else (if a0 = 100 ∨ a0 = 119 then (some ((287948901175001088), S)) else (if a0 = 115 then (some ((4294968320), S)) else (some ((-8589934592), S))))
theorem jt_217 (d : Nat) (hd : 1 ≤ d) (Q : Nat) (a0 : Int) (ha0 : ev_rng a0) (S : ev_St) (x : Int64) (S' : ev_St) (hJ : jm_217 Q a0 S = some (x, S')) : ev_Ref d 217 [.int (Int32.ofInt a0)] S (ev_eL x) S' (ev_PU x) := by
  obtain ⟨d, rfl⟩ : ∃ e, d = e + 1 := ⟨d - 1, by omega⟩
  refine ev_ref_of (P := ev_PU) (lv := [(0, .int (Int32.ofInt a0))]) (by decide +kernel) (by (try simp only [ev_sum, ev_nv_cat]); first | done | rfl) (by (try simp only [lv_args, ev_nv_cat]); first | done | rfl) ?_ x S' hJ
  unfold jm_217
  refine ev_r_iload_n (pc := 0) (k := 0) (v := Int32.ofInt a0) (by decide +kernel) (by rfl) ?_
  refine ev_r_ite ?_ ?_
  · intro c1
    refine ev_r_sw (pc := 1) (i := (.lookupswitch 63 #[(68, 59), (87, 59), (100, 51), (115, 55), (119, 51)])) (len := 51) (pc' := 60) (by decide +kernel) (by rcases c1 with e | e <;> (rw [e]; rw [ev_pure_lsw]; exact ev_lsw_c (o := 59) (by decide) (by decide +kernel) (by decide +kernel) (by decide +kernel))) ?_
    refine ev_r_ldc2 (pc := 60) (y := 389) (k := -287948905469967360) (by decide +kernel) (by decide +kernel) ?_
    exact ev_r_lreturn (pc := 63) (x := (-287948905469967360)) trivial (by decide +kernel) (by decide +kernel) rfl
  · intro c1
    refine ev_r_ite ?_ ?_
    · intro c2
      refine ev_r_sw (pc := 1) (i := (.lookupswitch 63 #[(68, 59), (87, 59), (100, 51), (115, 55), (119, 51)])) (len := 51) (pc' := 52) (by decide +kernel) (by rcases c2 with e | e <;> (rw [e]; rw [ev_pure_lsw]; exact ev_lsw_c (o := 51) (by decide) (by decide +kernel) (by decide +kernel) (by decide +kernel))) ?_
      refine ev_r_ldc2 (pc := 52) (y := 385) (k := 287948901175001088) (by decide +kernel) (by decide +kernel) ?_
      exact ev_r_lreturn (pc := 55) (x := (287948901175001088)) trivial (by decide +kernel) (by decide +kernel) rfl
    · intro c2
      refine ev_r_ite ?_ ?_
      · intro c3
        refine ev_r_sw (pc := 1) (i := (.lookupswitch 63 #[(68, 59), (87, 59), (100, 51), (115, 55), (119, 51)])) (len := 51) (pc' := 56) (by decide +kernel) (by rw [c3]; rw [ev_pure_lsw]; exact ev_lsw_c (o := 55) (by decide) (by decide +kernel) (by decide +kernel) (by decide +kernel)) ?_
        refine ev_r_ldc2 (pc := 56) (y := 387) (k := 4294968320) (by decide +kernel) (by decide +kernel) ?_
        exact ev_r_lreturn (pc := 59) (x := (4294968320)) trivial (by decide +kernel) (by decide +kernel) rfl
      · intro c3
        refine ev_r_sw (pc := 1) (i := (.lookupswitch 63 #[(68, 59), (87, 59), (100, 51), (115, 55), (119, 51)])) (len := 51) (pc' := 64) (by decide +kernel) (by rw [ev_pure_lsw]; exact ev_lsw_c (o := 63) ha0 (by decide +kernel) (by show Op.lookupswitch.offset [(68, 59), (87, 59), (100, 51), (115, 55), (119, 51)] 63 a0 = 63; rw [Op.lookupswitch.offset_cons, if_neg (by omega), Op.lookupswitch.offset_cons, if_neg (by omega), Op.lookupswitch.offset_cons, if_neg (by omega), Op.lookupswitch.offset_cons, if_neg (by omega), Op.lookupswitch.offset_cons, if_neg (by omega), Op.lookupswitch.offset_nil]) (by decide +kernel)) ?_
        refine ev_r_ldc2 (pc := 64) (y := 391) (k := -8589934592) (by decide +kernel) (by decide +kernel) ?_
        exact ev_r_lreturn (pc := 67) (x := (-8589934592)) trivial (by decide +kernel) (by decide +kernel) rfl
/-- MendBench.kindHigh(I)J -/
def jm_218 (Q : Nat) (a0 : Int) (S : ev_St) : Option ((Int64) × ev_St) := if a0 = 87 then (some ((8646911290859585537), S)) else (if a0 = 100 ∨ a0 = 115 then (some ((Int64.ofNat ((0 : Fin 2) : Nat)), S)) else (if a0 = 119 then (some ((576460745995190270), S)) else (some ((9223372036854775807), S))))
theorem jt_218 (d : Nat) (hd : 1 ≤ d) (Q : Nat) (a0 : Int) (ha0 : ev_rng a0) (S : ev_St) (x : Int64) (S' : ev_St) (hJ : jm_218 Q a0 S = some (x, S')) : ev_Ref d 218 [.int (Int32.ofInt a0)] S (ev_eL x) S' (ev_PU x) := by
  obtain ⟨d, rfl⟩ : ∃ e, d = e + 1 := ⟨d - 1, by omega⟩
  refine ev_ref_of (P := ev_PU) (lv := [(0, .int (Int32.ofInt a0))]) (by decide +kernel) (by (try simp only [ev_sum, ev_nv_cat]); first | done | rfl) (by (try simp only [lv_args, ev_nv_cat]); first | done | rfl) ?_ x S' hJ
  unfold jm_218
  refine ev_r_iload_n (pc := 0) (k := 0) (v := Int32.ofInt a0) (by decide +kernel) (by rfl) ?_
  refine ev_r_ite ?_ ?_
  · intro c1
    refine ev_r_sw (pc := 1) (i := (.lookupswitch 53 #[(87, 49), (100, 43), (115, 43), (119, 45)])) (len := 43) (pc' := 50) (by decide +kernel) (by rw [c1]; rw [ev_pure_lsw]; exact ev_lsw_c (o := 49) (by decide) (by decide +kernel) (by decide +kernel) (by decide +kernel)) ?_
    refine ev_r_ldc2 (pc := 50) (y := 395) (k := 8646911290859585537) (by decide +kernel) (by decide +kernel) ?_
    exact ev_r_lreturn (pc := 53) (x := (8646911290859585537)) trivial (by decide +kernel) (by decide +kernel) rfl
  · intro c1
    refine ev_r_ite ?_ ?_
    · intro c2
      refine ev_r_sw (pc := 1) (i := (.lookupswitch 53 #[(87, 49), (100, 43), (115, 43), (119, 45)])) (len := 43) (pc' := 44) (by decide +kernel) (by rcases c2 with e | e <;> (rw [e]; rw [ev_pure_lsw]; exact ev_lsw_c (o := 43) (by decide) (by decide +kernel) (by decide +kernel) (by decide +kernel))) ?_
      refine ev_r_lconst (pc := 44) (c := 0) (by decide +kernel) ?_
      exact ev_r_lreturn (pc := 45) (x := (Int64.ofNat ((0 : Fin 2) : Nat))) trivial (by decide +kernel) (by decide +kernel) rfl
    · intro c2
      refine ev_r_ite ?_ ?_
      · intro c3
        refine ev_r_sw (pc := 1) (i := (.lookupswitch 53 #[(87, 49), (100, 43), (115, 43), (119, 45)])) (len := 43) (pc' := 46) (by decide +kernel) (by rw [c3]; rw [ev_pure_lsw]; exact ev_lsw_c (o := 45) (by decide) (by decide +kernel) (by decide +kernel) (by decide +kernel)) ?_
        refine ev_r_ldc2 (pc := 46) (y := 393) (k := 576460745995190270) (by decide +kernel) (by decide +kernel) ?_
        exact ev_r_lreturn (pc := 49) (x := (576460745995190270)) trivial (by decide +kernel) (by decide +kernel) rfl
      · intro c3
        refine ev_r_sw (pc := 1) (i := (.lookupswitch 53 #[(87, 49), (100, 43), (115, 43), (119, 45)])) (len := 43) (pc' := 54) (by decide +kernel) (by rw [ev_pure_lsw]; exact ev_lsw_c (o := 53) ha0 (by decide +kernel) (by show Op.lookupswitch.offset [(87, 49), (100, 43), (115, 43), (119, 45)] 53 a0 = 53; rw [Op.lookupswitch.offset_cons, if_neg (by omega), Op.lookupswitch.offset_cons, if_neg (by omega), Op.lookupswitch.offset_cons, if_neg (by omega), Op.lookupswitch.offset_cons, if_neg (by omega), Op.lookupswitch.offset_nil]) (by decide +kernel)) ?_
        refine ev_r_ldc2 (pc := 54) (y := 397) (k := 9223372036854775807) (by decide +kernel) (by decide +kernel) ?_
        exact ev_r_lreturn (pc := 57) (x := (9223372036854775807)) trivial (by decide +kernel) (by decide +kernel) rfl
/-- MendBench.isPlainBehindSlash(I)Z -/
def jm_211 (Q : Nat) (a0 : Int) (S : ev_St) : Option ((Int) × ev_St) := ev_jn (fun  (s3 : ev_St) => ev_jn (fun  (s6 : ev_St) => ev_jn (fun  (s9 : ev_St) => if a0 ≤ 122 then (some (0, s9)) else (if 126 < a0 then (some (0, s9)) else (some (1, s9)))) fun K36 => if a0 ≤ 90 then (K36  s6) else (if a0 < 97 then (some (1, s6)) else (K36  s6))) fun K24 => if a0 ≤ 57 then (K24  s3) else (if a0 < 65 then (some (1, s3)) else (K24  s3))) fun K12 => if a0 ≤ 32 then (K12  S) else (if a0 < 48 then (some (1, S)) else (K12  S))
theorem jt_211 (d : Nat) (hd : 1 ≤ d) (Q : Nat) (a0 : Int) (ha0 : ev_rng a0) (S : ev_St) (x : Int) (S' : ev_St) (hJ : jm_211 Q a0 S = some (x, S')) : ev_Ref d 211 [.int (Int32.ofInt a0)] S (ev_eI x) S' (ev_bl x) := by
  obtain ⟨d, rfl⟩ : ∃ e, d = e + 1 := ⟨d - 1, by omega⟩
  refine ev_ref_of (P := ev_bl) (lv := [(0, .int (Int32.ofInt a0))]) (by decide +kernel) (by (try simp only [ev_sum, ev_nv_cat]); first | done | rfl) (by (try simp only [lv_args, ev_nv_cat]); first | done | rfl) ?_ x S' hJ
  unfold jm_211
  refine ev_r_iload_n (pc := 0) (k := 0) (v := Int32.ofInt a0) (by decide +kernel) (by rfl) ?_
  refine ev_r_bipush (pc := 1) (k := 32) (by decide +kernel) (by decide +kernel) ?_
  refine ev_r_jn (Q := fun K => ∀ (s3 : ev_St) (w1 : List (Nat × Value)), ev_lk w1 0 = some (.int (Int32.ofInt a0)) → ev_w none (ev_Mof 211) d 12 w1 [] s3 (K  s3) ev_eI ev_bl) ?_ ?_
  · intro  s3 w1 e2
    refine ev_r_iload_n (pc := 12) (k := 0) (v := Int32.ofInt a0) (by decide +kernel) (by exact e2) ?_
    refine ev_r_bipush (pc := 13) (k := 57) (by decide +kernel) (by decide +kernel) ?_
    refine ev_r_jn (Q := fun K => ∀ (s6 : ev_St) (w4 : List (Nat × Value)), ev_lk w4 0 = some (.int (Int32.ofInt a0)) → ev_w none (ev_Mof 211) d 24 w4 [] s6 (K  s6) ev_eI ev_bl) ?_ ?_
    · intro  s6 w4 e5
      refine ev_r_iload_n (pc := 24) (k := 0) (v := Int32.ofInt a0) (by decide +kernel) (by exact e5) ?_
      refine ev_r_bipush (pc := 25) (k := 90) (by decide +kernel) (by decide +kernel) ?_
      refine ev_r_jn (Q := fun K => ∀ (s9 : ev_St) (w7 : List (Nat × Value)), ev_lk w7 0 = some (.int (Int32.ofInt a0)) → ev_w none (ev_Mof 211) d 36 w7 [] s9 (K  s9) ev_eI ev_bl) ?_ ?_
      · intro  s9 w7 e8
        refine ev_r_iload_n (pc := 36) (k := 0) (v := Int32.ofInt a0) (by decide +kernel) (by exact e8) ?_
        refine ev_r_bipush (pc := 37) (k := 122) (by decide +kernel) (by decide +kernel) ?_
        refine ev_r_icmp (pc := 39) (q := .le) (o := 13) (t := 52) (c := a0 ≤ 122) (by decide +kernel) (ev_k_le ha0 (by decide)) (by decide +kernel) ?_ ?_
        · intro c10
          refine ev_r_iconst (pc := 52) (k := 0) (by decide +kernel) ?_
          exact ev_r_ireturn (pc := 53) (x := 0) (v := Int32.ofInt 0) (ty := .boolean) (by decide : ev_bl 0) (by decide +kernel) (by decide +kernel) (ev_ret_bl (by decide : ev_bl 0)) rfl
        · intro c10
          refine ev_r_iload_n (pc := 42) (k := 0) (v := Int32.ofInt a0) (by decide +kernel) (by exact e8) ?_
          refine ev_r_bipush (pc := 43) (k := 126) (by decide +kernel) (by decide +kernel) ?_
          refine ev_r_icmp (pc := 45) (q := .gt) (o := 7) (t := 52) (c := 126 < a0) (by decide +kernel) (ev_k_gt ha0 (by decide)) (by decide +kernel) ?_ ?_
          · intro c11
            refine ev_r_iconst (pc := 52) (k := 0) (by decide +kernel) ?_
            exact ev_r_ireturn (pc := 53) (x := 0) (v := Int32.ofInt 0) (ty := .boolean) (by decide : ev_bl 0) (by decide +kernel) (by decide +kernel) (ev_ret_bl (by decide : ev_bl 0)) rfl
          · intro c11
            refine ev_r_iconst (pc := 48) (k := 1) (by decide +kernel) ?_
            refine ev_r_goto (pc := 49) (o := 4) (t := 53) (by decide +kernel) (by decide +kernel) ?_
            exact ev_r_ireturn (pc := 53) (x := 1) (v := Int32.ofInt 1) (ty := .boolean) (by decide : ev_bl 1) (by decide +kernel) (by decide +kernel) (ev_ret_bl (by decide : ev_bl 1)) rfl
      · intro K36 hK36
        refine ev_r_icmp (pc := 27) (q := .le) (o := 9) (t := 36) (c := a0 ≤ 90) (by decide +kernel) (ev_k_le ha0 (by decide)) (by decide +kernel) ?_ ?_
        · intro c12
          exact hK36  s6 _ (by exact e5)
        · intro c12
          refine ev_r_iload_n (pc := 30) (k := 0) (v := Int32.ofInt a0) (by decide +kernel) (by exact e5) ?_
          refine ev_r_bipush (pc := 31) (k := 97) (by decide +kernel) (by decide +kernel) ?_
          refine ev_r_icmp (pc := 33) (q := .lt) (o := 15) (t := 48) (c := a0 < 97) (by decide +kernel) (ev_k_lt ha0 (by decide)) (by decide +kernel) ?_ ?_
          · intro c13
            refine ev_r_iconst (pc := 48) (k := 1) (by decide +kernel) ?_
            refine ev_r_goto (pc := 49) (o := 4) (t := 53) (by decide +kernel) (by decide +kernel) ?_
            exact ev_r_ireturn (pc := 53) (x := 1) (v := Int32.ofInt 1) (ty := .boolean) (by decide : ev_bl 1) (by decide +kernel) (by decide +kernel) (ev_ret_bl (by decide : ev_bl 1)) rfl
          · intro c13
            exact hK36  s6 _ (by exact e5)
    · intro K24 hK24
      refine ev_r_icmp (pc := 15) (q := .le) (o := 9) (t := 24) (c := a0 ≤ 57) (by decide +kernel) (ev_k_le ha0 (by decide)) (by decide +kernel) ?_ ?_
      · intro c14
        exact hK24  s3 _ (by exact e2)
      · intro c14
        refine ev_r_iload_n (pc := 18) (k := 0) (v := Int32.ofInt a0) (by decide +kernel) (by exact e2) ?_
        refine ev_r_bipush (pc := 19) (k := 65) (by decide +kernel) (by decide +kernel) ?_
        refine ev_r_icmp (pc := 21) (q := .lt) (o := 27) (t := 48) (c := a0 < 65) (by decide +kernel) (ev_k_lt ha0 (by decide)) (by decide +kernel) ?_ ?_
        · intro c15
          refine ev_r_iconst (pc := 48) (k := 1) (by decide +kernel) ?_
          refine ev_r_goto (pc := 49) (o := 4) (t := 53) (by decide +kernel) (by decide +kernel) ?_
          exact ev_r_ireturn (pc := 53) (x := 1) (v := Int32.ofInt 1) (ty := .boolean) (by decide : ev_bl 1) (by decide +kernel) (by decide +kernel) (ev_ret_bl (by decide : ev_bl 1)) rfl
        · intro c15
          exact hK24  s3 _ (by exact e2)
  · intro K12 hK12
    refine ev_r_icmp (pc := 3) (q := .le) (o := 9) (t := 12) (c := a0 ≤ 32) (by decide +kernel) (ev_k_le ha0 (by decide)) (by decide +kernel) ?_ ?_
    · intro c16
      exact hK12  S _ (by rfl)
    · intro c16
      refine ev_r_iload_n (pc := 6) (k := 0) (v := Int32.ofInt a0) (by decide +kernel) (by rfl) ?_
      refine ev_r_bipush (pc := 7) (k := 48) (by decide +kernel) (by decide +kernel) ?_
      refine ev_r_icmp (pc := 9) (q := .lt) (o := 39) (t := 48) (c := a0 < 48) (by decide +kernel) (ev_k_lt ha0 (by decide)) (by decide +kernel) ?_ ?_
      · intro c17
        refine ev_r_iconst (pc := 48) (k := 1) (by decide +kernel) ?_
        refine ev_r_goto (pc := 49) (o := 4) (t := 53) (by decide +kernel) (by decide +kernel) ?_
        exact ev_r_ireturn (pc := 53) (x := 1) (v := Int32.ofInt 1) (ty := .boolean) (by decide : ev_bl 1) (by decide +kernel) (by decide +kernel) (ev_ret_bl (by decide : ev_bl 1)) rfl
      · intro c17
        exact hK12  S _ (by rfl)
/-- MendBench$ClassReader.readSingle()I -/
def jm_27 (Q : Nat)  (S : ev_St) : Option ((Int) × ev_St) := ev_b (S.2.2.1 6 8) fun r1 => ev_b (S.1 6 9) fun x2 => ev_if (r1 ≠ 0) (ev_bd (jm_151 Q ((r1 - 1)) x2 S) fun x5 s4 => ev_b (s4.2.2.1 6 8) fun r6 => ev_b (s4.1 6 9) fun x7 => ev_ck (x7 + 1) fun x8 => ev_if (r6 ≠ 0) (ev_bd (jm_151 Q ((r6 - 1)) x8 s4) fun x11 s10 => if x5 = 91 then (some ((-1), s10)) else (if x5 = 93 then (some ((-1), s10)) else (if x5 = 45 then (some ((-1), s10)) else (ev_jn (fun  (s19 : ev_St) => ev_b (s19.1 6 9) fun x20 => ev_ck (x20 + 1) fun x21 => ev_b (ev_pI s19 6 9 x21) fun s22 => if x5 = 92 then (ev_b (s22.1 6 9) fun x24 => ev_ck (x24 + 1) fun x25 => ev_b (ev_pI s22 6 9 x25) fun s26 => if x11 ≠ 110 then (ev_bd (jm_211 Q x11 s26) fun x29 s28 => if x29 = 0 then (some ((-1), s28)) else (some (x11, s28))) else (some (10, s26))) else (some (x5, s22))) fun K58 => if x5 ≠ 38 then (K58  s10) else (if x11 ≠ 38 then (K58  s10) else (some ((-1), s10))))))))
theorem jt_27 (d : Nat) (hd : 2 ≤ d) (Q : Nat)   (S : ev_St) (x : Int) (S' : ev_St) (hJ : jm_27 Q  S = some (x, S')) : ev_Ref d 27 [.ref 6] S (ev_eI x) S' (ev_rng x) := by
  obtain ⟨d, rfl⟩ : ∃ e, d = e + 1 := ⟨d - 1, by omega⟩
  refine ev_ref_of (P := ev_rng) (lv := [(0, .ref 6)]) (by decide +kernel) (by (try simp only [ev_sum, ev_nv_cat]); first | done | rfl) (by (try simp only [lv_args, ev_nv_cat]); first | done | rfl) ?_ x S' hJ
  unfold jm_27
  refine ev_r_aload_n (pc := 0) (k := 0) (v := .ref 6) trivial (by decide +kernel) (by rfl) ?_
  refine ev_r_getR (pc := 1) (y := 35) (ci := 1) (f := 8) (fin := 0) (t := 10) (by decide +kernel) (by decide +kernel) (by exact ev_ob_6) rfl rfl ?_
  intro r1 hr1
  have hr1 : r1 = 0 ∨ ev_isOb (r1 - 1) 10 = true := hr1
  refine ev_r_aload_n (pc := 4) (k := 0) (v := .ref 6) trivial (by decide +kernel) (by rfl) ?_
  refine ev_r_getI (pc := 5) (y := 39) (ci := 1) (f := 9) (fin := 0) (by decide +kernel) (by decide +kernel) (by exact ev_ob_6) rfl ?_
  intro x2 hx2
  refine ev_r_chk ?_
  intro c3
  refine ev_r_dr (r := r1) (fun v => [.int (Int32.ofInt x2), v]) c3 ?_
  refine ev_r_virt (pc := 8) (y := 62) (mi := 151) (na := 1) (k := (r1 - 1)) (as := [.int (Int32.ofInt x2)]) (rest := []) (encc := ev_oI) (Q := ev_rng) (fun x S1 h => jt_151 d (by omega) Q ((r1 - 1)) x2 (hr1.resolve_left c3) hx2 S x S1 h) (by exact (hr1.resolve_left c3)) (by decide +kernel) (by decide +kernel) (by decide +kernel) (by decide +kernel) rfl (by (try simp only [ev_sum, ev_nv_cat]); first | done | rfl) ?_
  intro x5 s4 hx5
  show ev_w _ _ _ _ _ [.int (Int32.ofInt x5)] _ _ _ _
  refine ev_r_istore_n (pc := 11) (k := 1) (by decide +kernel) (by decide +kernel) rfl ?_
  refine ev_r_aload_n (pc := 12) (k := 0) (v := .ref 6) trivial (by decide +kernel) (by exact (ev_lk_st1 (by rfl) (by decide) rfl)) ?_
  refine ev_r_getR (pc := 13) (y := 35) (ci := 1) (f := 8) (fin := 0) (t := 10) (by decide +kernel) (by decide +kernel) (by exact ev_ob_6) rfl rfl ?_
  intro r6 hr6
  have hr6 : r6 = 0 ∨ ev_isOb (r6 - 1) 10 = true := hr6
  refine ev_r_aload_n (pc := 16) (k := 0) (v := .ref 6) trivial (by decide +kernel) (by exact (ev_lk_st1 (by rfl) (by decide) rfl)) ?_
  refine ev_r_getI (pc := 17) (y := 39) (ci := 1) (f := 9) (fin := 0) (by decide +kernel) (by decide +kernel) (by exact ev_ob_6) rfl ?_
  intro x7 hx7
  refine ev_r_iconst (pc := 20) (k := 1) (by decide +kernel) ?_
  refine ev_r_iadd (pc := 21) (by decide +kernel) ?_
  intro x8 hx8
  refine ev_r_chk ?_
  intro c9
  refine ev_r_dr (r := r6) (fun v => [.int (Int32.ofInt x8), v]) c9 ?_
  refine ev_r_virt (pc := 22) (y := 62) (mi := 151) (na := 1) (k := (r6 - 1)) (as := [.int (Int32.ofInt x8)]) (rest := []) (encc := ev_oI) (Q := ev_rng) (fun x S1 h => jt_151 d (by omega) Q ((r6 - 1)) x8 (hr6.resolve_left c9) hx8 s4 x S1 h) (by exact (hr6.resolve_left c9)) (by decide +kernel) (by decide +kernel) (by decide +kernel) (by decide +kernel) rfl (by (try simp only [ev_sum, ev_nv_cat]); first | done | rfl) ?_
  intro x11 s10 hx11
  show ev_w _ _ _ _ _ [.int (Int32.ofInt x11)] _ _ _ _
  refine ev_r_istore_n (pc := 25) (k := 2) (by decide +kernel) (by decide +kernel) rfl ?_
  refine ev_r_iload_n (pc := 26) (k := 1) (v := Int32.ofInt x5) (by decide +kernel) (by exact (ev_lk_st1 ev_lk_st1_self (by decide) rfl)) ?_
  refine ev_r_bipush (pc := 27) (k := 91) (by decide +kernel) (by decide +kernel) ?_
  refine ev_r_icmp (pc := 29) (q := .eq) (o := 27) (t := 56) (c := x5 = 91) (by decide +kernel) (ev_k_eq hx5 (by decide)) (by decide +kernel) ?_ ?_
  · intro c12
    refine ev_r_iconst (pc := 56) (k := -1) (by decide +kernel) ?_
    exact ev_r_ireturn (pc := 57) (x := (-1)) (v := Int32.ofInt ((-1))) (ty := .int) (by decide) (by decide +kernel) (by decide +kernel) rfl rfl
  · intro c12
    refine ev_r_iload_n (pc := 32) (k := 1) (v := Int32.ofInt x5) (by decide +kernel) (by exact (ev_lk_st1 ev_lk_st1_self (by decide) rfl)) ?_
    refine ev_r_bipush (pc := 33) (k := 93) (by decide +kernel) (by decide +kernel) ?_
    refine ev_r_icmp (pc := 35) (q := .eq) (o := 21) (t := 56) (c := x5 = 93) (by decide +kernel) (ev_k_eq hx5 (by decide)) (by decide +kernel) ?_ ?_
    · intro c13
      refine ev_r_iconst (pc := 56) (k := -1) (by decide +kernel) ?_
      exact ev_r_ireturn (pc := 57) (x := (-1)) (v := Int32.ofInt ((-1))) (ty := .int) (by decide) (by decide +kernel) (by decide +kernel) rfl rfl
    · intro c13
      refine ev_r_iload_n (pc := 38) (k := 1) (v := Int32.ofInt x5) (by decide +kernel) (by exact (ev_lk_st1 ev_lk_st1_self (by decide) rfl)) ?_
      refine ev_r_bipush (pc := 39) (k := 45) (by decide +kernel) (by decide +kernel) ?_
      refine ev_r_icmp (pc := 41) (q := .eq) (o := 15) (t := 56) (c := x5 = 45) (by decide +kernel) (ev_k_eq hx5 (by decide)) (by decide +kernel) ?_ ?_
      · intro c14
        refine ev_r_iconst (pc := 56) (k := -1) (by decide +kernel) ?_
        exact ev_r_ireturn (pc := 57) (x := (-1)) (v := Int32.ofInt ((-1))) (ty := .int) (by decide) (by decide +kernel) (by decide +kernel) rfl rfl
      · intro c14
        refine ev_r_iload_n (pc := 44) (k := 1) (v := Int32.ofInt x5) (by decide +kernel) (by exact (ev_lk_st1 ev_lk_st1_self (by decide) rfl)) ?_
        refine ev_r_bipush (pc := 45) (k := 38) (by decide +kernel) (by decide +kernel) ?_
        refine ev_r_jn (Q := fun K => ∀ (s19 : ev_St) (w15 : List (Nat × Value)), ev_lk w15 0 = some (.ref 6) → ev_lk w15 1 = some (.int (Int32.ofInt x5)) → ev_lk w15 2 = some (.int (Int32.ofInt x11)) → ev_w none (ev_Mof 27) d 58 w15 [] s19 (K  s19) ev_eI ev_rng) ?_ ?_
        · intro  s19 w15 e16 e17 e18
          refine ev_r_aload_n (pc := 58) (k := 0) (v := .ref 6) trivial (by decide +kernel) (by exact e16) ?_
          refine ev_r_dup (pc := 59) rfl (by decide +kernel) ?_
          refine ev_r_getI (pc := 60) (y := 39) (ci := 1) (f := 9) (fin := 0) (by decide +kernel) (by decide +kernel) (by exact ev_ob_6) rfl ?_
          intro x20 hx20
          refine ev_r_iconst (pc := 63) (k := 1) (by decide +kernel) ?_
          refine ev_r_iadd (pc := 64) (by decide +kernel) ?_
          intro x21 hx21
          refine ev_r_putI (pc := 65) (y := 39) (ci := 1) (f := 9) hx21 (by decide +kernel) (by decide +kernel) (by exact ev_ob_6) rfl rfl ?_
          intro s22
          refine ev_r_iload_n (pc := 68) (k := 1) (v := Int32.ofInt x5) (by decide +kernel) (by exact e17) ?_
          refine ev_r_bipush (pc := 69) (k := 92) (by decide +kernel) (by decide +kernel) ?_
          refine ev_r_icmp (pc := 71) (q := .eq) (o := 5) (t := 76) (c := x5 = 92) (by decide +kernel) (ev_k_eq hx5 (by decide)) (by decide +kernel) ?_ ?_
          · intro c23
            refine ev_r_aload_n (pc := 76) (k := 0) (v := .ref 6) trivial (by decide +kernel) (by exact e16) ?_
            refine ev_r_dup (pc := 77) rfl (by decide +kernel) ?_
            refine ev_r_getI (pc := 78) (y := 39) (ci := 1) (f := 9) (fin := 0) (by decide +kernel) (by decide +kernel) (by exact ev_ob_6) rfl ?_
            intro x24 hx24
            refine ev_r_iconst (pc := 81) (k := 1) (by decide +kernel) ?_
            refine ev_r_iadd (pc := 82) (by decide +kernel) ?_
            intro x25 hx25
            refine ev_r_putI (pc := 83) (y := 39) (ci := 1) (f := 9) hx25 (by decide +kernel) (by decide +kernel) (by exact ev_ob_6) rfl rfl ?_
            intro s26
            refine ev_r_iload_n (pc := 86) (k := 2) (v := Int32.ofInt x11) (by decide +kernel) (by exact e18) ?_
            refine ev_r_bipush (pc := 87) (k := 110) (by decide +kernel) (by decide +kernel) ?_
            refine ev_r_icmp (pc := 89) (q := .ne) (o := 8) (t := 97) (c := x11 ≠ 110) (by decide +kernel) (ev_k_ne hx11 (by decide)) (by decide +kernel) ?_ ?_
            · intro c27
              refine ev_r_iload_n (pc := 97) (k := 2) (v := Int32.ofInt x11) (by decide +kernel) (by exact e18) ?_
              refine ev_r_stat (pc := 98) (y := 117) (kind := 5) (mi := 211) (na := 1) (as := [.int (Int32.ofInt x11)]) (rest := []) (encc := ev_oI) (Q := ev_bl) (fun x S1 h => jt_211 d (by omega) Q x11 hx11 s26 x S1 h) (Or.inr (Or.inl rfl)) (by decide +kernel) (by decide +kernel) (by decide +kernel) (by decide +kernel) rfl (by (try simp only [ev_sum, ev_nv_cat]); first | done | rfl) ?_
              intro x29 s28 hx29
              replace hx29 := ev_bl_rng hx29
              show ev_w _ _ _ _ _ [.int (Int32.ofInt x29)] _ _ _ _
              refine ev_r_if (pc := 101) (q := .eq) (o := 7) (t := 108) (c := x29 = 0) (by decide +kernel) (ev_k_eq hx29 ev_rng0) (by decide +kernel) ?_ ?_
              · intro c30
                refine ev_r_iconst (pc := 108) (k := -1) (by decide +kernel) ?_
                exact ev_r_ireturn (pc := 109) (x := (-1)) (v := Int32.ofInt ((-1))) (ty := .int) (by decide) (by decide +kernel) (by decide +kernel) rfl rfl
              · intro c30
                refine ev_r_iload_n (pc := 104) (k := 2) (v := Int32.ofInt x11) (by decide +kernel) (by exact e18) ?_
                refine ev_r_goto (pc := 105) (o := 4) (t := 109) (by decide +kernel) (by decide +kernel) ?_
                exact ev_r_ireturn (pc := 109) (x := x11) (v := Int32.ofInt x11) (ty := .int) hx11 (by decide +kernel) (by decide +kernel) rfl rfl
            · intro c27
              refine ev_r_bipush (pc := 92) (k := 10) (by decide +kernel) (by decide +kernel) ?_
              refine ev_r_goto (pc := 94) (o := 15) (t := 109) (by decide +kernel) (by decide +kernel) ?_
              exact ev_r_ireturn (pc := 109) (x := 10) (v := Int32.ofInt 10) (ty := .int) (by decide) (by decide +kernel) (by decide +kernel) rfl rfl
          · intro c23
            refine ev_r_iload_n (pc := 74) (k := 1) (v := Int32.ofInt x5) (by decide +kernel) (by exact e17) ?_
            exact ev_r_ireturn (pc := 75) (x := x5) (v := Int32.ofInt x5) (ty := .int) hx5 (by decide +kernel) (by decide +kernel) rfl rfl
        · intro K58 hK58
          refine ev_r_icmp (pc := 47) (q := .ne) (o := 11) (t := 58) (c := x5 ≠ 38) (by decide +kernel) (ev_k_ne hx5 (by decide)) (by decide +kernel) ?_ ?_
          · intro c31
            exact hK58  s10 _ (by exact (ev_l1 (ev_lk_st1 (by rfl) (by decide) rfl) (by decide) (by decide))) (by exact (ev_lk_st1 ev_lk_st1_self (by decide) rfl)) (by exact ev_lk_st1_self)
          · intro c31
            refine ev_r_iload_n (pc := 50) (k := 2) (v := Int32.ofInt x11) (by decide +kernel) (by exact ev_lk_st1_self) ?_
            refine ev_r_bipush (pc := 51) (k := 38) (by decide +kernel) (by decide +kernel) ?_
            refine ev_r_icmp (pc := 53) (q := .ne) (o := 5) (t := 58) (c := x11 ≠ 38) (by decide +kernel) (ev_k_ne hx11 (by decide)) (by decide +kernel) ?_ ?_
            · intro c32
              exact hK58  s10 _ (by exact (ev_l1 (ev_lk_st1 (by rfl) (by decide) rfl) (by decide) (by decide))) (by exact (ev_lk_st1 ev_lk_st1_self (by decide) rfl)) (by exact ev_lk_st1_self)
            · intro c32
              refine ev_r_iconst (pc := 56) (k := -1) (by decide +kernel) ?_
              exact ev_r_ireturn (pc := 57) (x := (-1)) (v := Int32.ofInt ((-1))) (ty := .int) (by decide) (by decide +kernel) (by decide +kernel) rfl rfl
/-- MendBench.isSign(I)Z -/
def jm_207 (Q : Nat) (a0 : Int) (S : ev_St) : Option ((Int) × ev_St) := if a0 = 10 then (some (1, S)) else (if a0 < 32 then (some (0, S)) else (if 126 < a0 then (some (0, S)) else (some (1, S))))
theorem jt_207 (d : Nat) (hd : 1 ≤ d) (Q : Nat) (a0 : Int) (ha0 : ev_rng a0) (S : ev_St) (x : Int) (S' : ev_St) (hJ : jm_207 Q a0 S = some (x, S')) : ev_Ref d 207 [.int (Int32.ofInt a0)] S (ev_eI x) S' (ev_bl x) := by
  obtain ⟨d, rfl⟩ : ∃ e, d = e + 1 := ⟨d - 1, by omega⟩
  refine ev_ref_of (P := ev_bl) (lv := [(0, .int (Int32.ofInt a0))]) (by decide +kernel) (by (try simp only [ev_sum, ev_nv_cat]); first | done | rfl) (by (try simp only [lv_args, ev_nv_cat]); first | done | rfl) ?_ x S' hJ
  unfold jm_207
  refine ev_r_iload_n (pc := 0) (k := 0) (v := Int32.ofInt a0) (by decide +kernel) (by rfl) ?_
  refine ev_r_bipush (pc := 1) (k := 10) (by decide +kernel) (by decide +kernel) ?_
  refine ev_r_icmp (pc := 3) (q := .eq) (o := 15) (t := 18) (c := a0 = 10) (by decide +kernel) (ev_k_eq ha0 (by decide)) (by decide +kernel) ?_ ?_
  · intro c1
    refine ev_r_iconst (pc := 18) (k := 1) (by decide +kernel) ?_
    refine ev_r_goto (pc := 19) (o := 4) (t := 23) (by decide +kernel) (by decide +kernel) ?_
    exact ev_r_ireturn (pc := 23) (x := 1) (v := Int32.ofInt 1) (ty := .boolean) (by decide : ev_bl 1) (by decide +kernel) (by decide +kernel) (ev_ret_bl (by decide : ev_bl 1)) rfl
  · intro c1
    refine ev_r_iload_n (pc := 6) (k := 0) (v := Int32.ofInt a0) (by decide +kernel) (by rfl) ?_
    refine ev_r_bipush (pc := 7) (k := 32) (by decide +kernel) (by decide +kernel) ?_
    refine ev_r_icmp (pc := 9) (q := .lt) (o := 13) (t := 22) (c := a0 < 32) (by decide +kernel) (ev_k_lt ha0 (by decide)) (by decide +kernel) ?_ ?_
    · intro c2
      refine ev_r_iconst (pc := 22) (k := 0) (by decide +kernel) ?_
      exact ev_r_ireturn (pc := 23) (x := 0) (v := Int32.ofInt 0) (ty := .boolean) (by decide : ev_bl 0) (by decide +kernel) (by decide +kernel) (ev_ret_bl (by decide : ev_bl 0)) rfl
    · intro c2
      refine ev_r_iload_n (pc := 12) (k := 0) (v := Int32.ofInt a0) (by decide +kernel) (by rfl) ?_
      refine ev_r_bipush (pc := 13) (k := 126) (by decide +kernel) (by decide +kernel) ?_
      refine ev_r_icmp (pc := 15) (q := .gt) (o := 7) (t := 22) (c := 126 < a0) (by decide +kernel) (ev_k_gt ha0 (by decide)) (by decide +kernel) ?_ ?_
      · intro c3
        refine ev_r_iconst (pc := 22) (k := 0) (by decide +kernel) ?_
        exact ev_r_ireturn (pc := 23) (x := 0) (v := Int32.ofInt 0) (ty := .boolean) (by decide : ev_bl 0) (by decide +kernel) (by decide +kernel) (ev_ret_bl (by decide : ev_bl 0)) rfl
      · intro c3
        refine ev_r_iconst (pc := 18) (k := 1) (by decide +kernel) ?_
        refine ev_r_goto (pc := 19) (o := 4) (t := 23) (by decide +kernel) (by decide +kernel) ?_
        exact ev_r_ireturn (pc := 23) (x := 1) (v := Int32.ofInt 1) (ty := .boolean) (by decide : ev_bl 1) (by decide +kernel) (by decide +kernel) (ev_ret_bl (by decide : ev_bl 1)) rfl
/-- MendBench.foldedHigh(J)J -/
def jm_215 (Q : Nat) (a0 : Int64) (S : ev_St) : Option ((Int64) × ev_St) := ev_b (a0 &&& (134217726)) fun y1 => ev_b (ev_lshl y1 32) fun y2 => ev_b (a0 ||| y2) fun y3 => ev_b (a0 &&& (576460743713488896)) fun y4 => ev_b (ev_lushr y4 32) fun y5 => ev_b (y3 ||| y5) fun y6 => some (y6, S)
theorem jt_215 (d : Nat) (hd : 1 ≤ d) (Q : Nat) (a0 : Int64)  (S : ev_St) (x : Int64) (S' : ev_St) (hJ : jm_215 Q a0 S = some (x, S')) : ev_Ref d 215 [.long a0] S (ev_eL x) S' (ev_PU x) := by
  obtain ⟨d, rfl⟩ : ∃ e, d = e + 1 := ⟨d - 1, by omega⟩
  refine ev_ref_of (P := ev_PU) (lv := [(0, .long a0)]) (by decide +kernel) (by (try simp only [ev_sum, ev_nv_cat]); first | done | rfl) (by (try simp only [lv_args, ev_nv_cat]); first | done | rfl) ?_ x S' hJ
  unfold jm_215
  refine ev_r_lload_n (pc := 0) (k := 0) (v := a0) (by decide +kernel) (by rfl) ?_
  refine ev_r_lload_n (pc := 1) (k := 0) (v := a0) (by decide +kernel) (by rfl) ?_
  refine ev_r_ldc2 (pc := 2) (y := 381) (k := 134217726) (by decide +kernel) (by decide +kernel) ?_
  refine ev_r_toL (pc := 5) (i := .land) (len := 1) (pc' := 6) (by decide +kernel) rfl ?_
  intro y1
  refine ev_r_bipush (pc := 6) (k := 32) (by decide +kernel) (by decide +kernel) ?_
  refine ev_r_toL (pc := 8) (i := .lshl) (len := 1) (pc' := 9) (by decide +kernel) rfl ?_
  intro y2
  refine ev_r_toL (pc := 9) (i := .lor) (len := 1) (pc' := 10) (by decide +kernel) rfl ?_
  intro y3
  refine ev_r_lload_n (pc := 10) (k := 0) (v := a0) (by decide +kernel) (by rfl) ?_
  refine ev_r_ldc2 (pc := 11) (y := 383) (k := 576460743713488896) (by decide +kernel) (by decide +kernel) ?_
  refine ev_r_toL (pc := 14) (i := .land) (len := 1) (pc' := 15) (by decide +kernel) rfl ?_
  intro y4
  refine ev_r_bipush (pc := 15) (k := 32) (by decide +kernel) (by decide +kernel) ?_
  refine ev_r_toL (pc := 17) (i := .lushr) (len := 1) (pc' := 18) (by decide +kernel) rfl ?_
  intro y5
  refine ev_r_toL (pc := 18) (i := .lor) (len := 1) (pc' := 19) (by decide +kernel) rfl ?_
  intro y6
  exact ev_r_lreturn (pc := 19) (x := y6) trivial (by decide +kernel) (by decide +kernel) rfl
def jb_26_79 (Q : Nat) (x4 : Int)  (K79 : Int64 → Int64 → Int → ev_St → Option ((Int) × ev_St)) (y12 : Int64) (y13 : Int64) (x14 : Int) (s21 : ev_St) : Option ((Int) × ev_St) := ev_jn (fun  (s26 : ev_St) => ev_b (s26.1 6 10) fun x27 => ev_jn (fun (y29 : Int64) (y28 : Int64) (s31 : ev_St) => ev_bd (jm_22 Q y28 y29 s31) fun x33 s32 => ev_if (ev_bl x33) (some (x33, s32))) fun K167 => if x27 = 0 then (K167 y13 y12 s26) else (ev_bd (jm_215 Q y13 s26) fun y37 s36 => K167 y37 y12 s36)) fun K148 => if x4 < x14 then (K148  s21) else (if 128 ≤ x14 then (K148  s21) else (ev_bd (jm_207 Q x14 s21) fun x41 s40 => ev_jn (fun (y42 : Int64) (y43 : Int64) (s50 : ev_St) => ev_ck (x14 + 1) fun x51 => K79 y42 y43 x51 s50) fun K142 => if x41 = 0 then (K142 y12 y13 s40) else (ev_jn (fun (y54 : Int64) (y53 : Int64) (s60 : ev_St) => ev_b (y53 ||| y54) fun y61 => ev_jn (fun (y62 : Int64) (y64 : Int64) (y63 : Int64) (s70 : ev_St) => ev_b (y63 ||| y64) fun y71 => K142 y62 y71 s70) fun K139 => if 64 ≤ x14 then (ev_ck (x14 - 64) fun x73 => ev_b (ev_lshl ((Int64.ofNat ((1 : Fin 2) : Nat))) x73) fun y74 => K139 y61 y74 y13 s60) else (K139 y61 ((Int64.ofNat ((0 : Fin 2) : Nat))) y13 s60)) fun K117 => if 64 ≤ x14 then (K117 ((Int64.ofNat ((0 : Fin 2) : Nat))) y12 s40) else (ev_b (ev_lshl ((Int64.ofNat ((1 : Fin 2) : Nat))) x14) fun y76 => K117 y76 y12 s40))))
def jl_26_79 (Q : Nat) (x4 : Int)  : Nat → Int64 → Int64 → Int → ev_St → Option ((Int) × ev_St)
  | 0 => fun _ _ _ _ => none
  | q + 1 => jb_26_79 Q x4  (jl_26_79 Q x4  q)
theorem jbt_26_79 (d : Nat) (hd : 3 ≤ d + 1) (Q : Nat) (x4 : Int) (hx4 : ev_rng x4)   (K79 : Int64 → Int64 → Int → ev_St → Option ((Int) × ev_St)) (hK79 : ∀ (y12 : Int64), ∀ (y13 : Int64), ∀ (x14 : Int) (hx14 : ev_rng x14), ∀ (s21 : ev_St) (w15 : List (Nat × Value)), ev_lk w15 0 = some (.ref 6) → ev_lk w15 2 = some (.int (Int32.ofInt x4)) → ev_lk w15 3 = some (.long y12) → ev_lk w15 5 = some (.long y13) → ev_lk w15 7 = some (.int (Int32.ofInt x14)) → ev_w none (ev_Mof 26) d 79 w15 [] s21 (K79 y12 y13 x14 s21) ev_eI ev_bl) : ∀ (y12 : Int64), ∀ (y13 : Int64), ∀ (x14 : Int) (hx14 : ev_rng x14), ∀ (s21 : ev_St) (w15 : List (Nat × Value)), ev_lk w15 0 = some (.ref 6) → ev_lk w15 2 = some (.int (Int32.ofInt x4)) → ev_lk w15 3 = some (.long y12) → ev_lk w15 5 = some (.long y13) → ev_lk w15 7 = some (.int (Int32.ofInt x14)) → ev_w none (ev_Mof 26) d 79 w15 [] s21 (jb_26_79 Q x4  K79 y12 y13 x14 s21) ev_eI ev_bl := by
  intro y12 y13 x14 hx14 s21 w15 e16 e17 e18 e19 e20
  unfold jb_26_79
  refine ev_r_iload (pc := 79) (k := 7) (v := Int32.ofInt x14) (by decide +kernel) (by exact e20) ?_
  refine ev_r_iload_n (pc := 81) (k := 2) (v := Int32.ofInt x4) (by decide +kernel) (by exact e17) ?_
  refine ev_r_jn (Q := fun K => ∀ (s26 : ev_St) (w22 : List (Nat × Value)), ev_lk w22 0 = some (.ref 6) → ev_lk w22 3 = some (.long y12) → ev_lk w22 5 = some (.long y13) → ev_w none (ev_Mof 26) d 148 w22 [] s26 (K  s26) ev_eI ev_bl) ?_ ?_
  · intro  s26 w22 e23 e24 e25
    refine ev_r_aload_n (pc := 148) (k := 0) (v := .ref 6) trivial (by decide +kernel) (by exact e23) ?_
    refine ev_r_lload_n (pc := 149) (k := 3) (v := y12) (by decide +kernel) (by exact e24) ?_
    refine ev_r_aload_n (pc := 150) (k := 0) (v := .ref 6) trivial (by decide +kernel) (by exact e23) ?_
    refine ev_r_getI (pc := 151) (y := 43) (ci := 1) (f := 10) (fin := 0) (by decide +kernel) (by decide +kernel) (by exact ev_ob_6) rfl ?_
    intro x27 hx27
    refine ev_r_jn (Q := fun K => ∀ (y29 : Int64), ∀ (y28 : Int64), ∀ (s31 : ev_St) (w30 : List (Nat × Value)), ev_w none (ev_Mof 26) d 167 w30 [.long y29, .long y28, .ref 6] s31 (K y29 y28 s31) ev_eI ev_bl) ?_ ?_
    · intro y29 y28 s31 w30 
      refine ev_r_virt (pc := 167) (y := 83) (mi := 22) (na := 2) (k := 6) (as := [.long y28, .long y29]) (rest := []) (encc := ev_oI) (Q := ev_bl) (fun x S1 h => jt_22 d (by omega) Q y28 y29  s31 x S1 h) (by exact ev_ob_6) (by decide +kernel) (by decide +kernel) (by decide +kernel) (by decide +kernel) rfl (by (try simp only [ev_sum, ev_nv_cat]); first | done | rfl) ?_
      intro x33 s32 hx33
      replace hx33 := ev_bl_rng hx33
      show ev_w _ _ _ _ _ [.int (Int32.ofInt x33)] _ _ _ _
      refine ev_r_chk ?_
      intro c34
      exact ev_r_ireturn (pc := 170) (x := x33) (v := Int32.ofInt x33) (ty := .boolean) c34 (by decide +kernel) (by decide +kernel) (ev_ret_bl c34) rfl
    · intro K167 hK167
      refine ev_r_if (pc := 154) (q := .eq) (o := 11) (t := 165) (c := x27 = 0) (by decide +kernel) (ev_k_eq hx27 ev_rng0) (by decide +kernel) ?_ ?_
      · intro c35
        refine ev_r_lload (pc := 165) (k := 5) (v := y13) (by decide +kernel) (by exact e25) ?_
        exact hK167 y13 y12 s26 _ 
      · intro c35
        refine ev_r_lload (pc := 157) (k := 5) (v := y13) (by decide +kernel) (by exact e25) ?_
        refine ev_r_stat (pc := 159) (y := 113) (kind := 5) (mi := 215) (na := 1) (as := [.long y13]) (rest := [.long y12, .ref 6]) (encc := ev_oL) (Q := ev_PU) (fun x S1 h => jt_215 d (by omega) Q y13  s26 x S1 h) (Or.inr (Or.inl rfl)) (by decide +kernel) (by decide +kernel) (by decide +kernel) (by decide +kernel) rfl (by (try simp only [ev_sum, ev_nv_cat]); first | done | rfl) ?_
        intro y37 s36 _
        show ev_w _ _ _ _ _ [.long y37, .long y12, .ref 6] _ _ _ _
        refine ev_r_goto (pc := 162) (o := 5) (t := 167) (by decide +kernel) (by decide +kernel) ?_
        exact hK167 y37 y12 s36 _ 
  · intro K148 hK148
    refine ev_r_icmp (pc := 82) (q := .gt) (o := 66) (t := 148) (c := x4 < x14) (by decide +kernel) (ev_k_gt hx14 hx4) (by decide +kernel) ?_ ?_
    · intro c38
      exact hK148  s21 _ (by exact e16) (by exact e18) (by exact e19)
    · intro c38
      refine ev_r_iload (pc := 85) (k := 7) (v := Int32.ofInt x14) (by decide +kernel) (by exact e20) ?_
      refine ev_r_sipush (pc := 87) (k := 128) (by decide +kernel) (by decide +kernel) ?_
      refine ev_r_icmp (pc := 90) (q := .ge) (o := 58) (t := 148) (c := 128 ≤ x14) (by decide +kernel) (ev_k_ge hx14 (by decide)) (by decide +kernel) ?_ ?_
      · intro c39
        exact hK148  s21 _ (by exact e16) (by exact e18) (by exact e19)
      · intro c39
        refine ev_r_iload (pc := 93) (k := 7) (v := Int32.ofInt x14) (by decide +kernel) (by exact e20) ?_
        refine ev_r_stat (pc := 95) (y := 110) (kind := 5) (mi := 207) (na := 1) (as := [.int (Int32.ofInt x14)]) (rest := []) (encc := ev_oI) (Q := ev_bl) (fun x S1 h => jt_207 d (by omega) Q x14 hx14 s21 x S1 h) (Or.inr (Or.inl rfl)) (by decide +kernel) (by decide +kernel) (by decide +kernel) (by decide +kernel) rfl (by (try simp only [ev_sum, ev_nv_cat]); first | done | rfl) ?_
        intro x41 s40 hx41
        replace hx41 := ev_bl_rng hx41
        show ev_w _ _ _ _ _ [.int (Int32.ofInt x41)] _ _ _ _
        refine ev_r_jn (Q := fun K => ∀ (y42 : Int64), ∀ (y43 : Int64), ∀ (s50 : ev_St) (w44 : List (Nat × Value)), ev_lk w44 0 = some (.ref 6) → ev_lk w44 2 = some (.int (Int32.ofInt x4)) → ev_lk w44 3 = some (.long y42) → ev_lk w44 5 = some (.long y43) → ev_lk w44 7 = some (.int (Int32.ofInt x14)) → ev_w none (ev_Mof 26) d 142 w44 [] s50 (K y42 y43 s50) ev_eI ev_bl) ?_ ?_
        · intro y42 y43 s50 w44 e45 e46 e47 e48 e49
          refine ev_r_iinc (pc := 142) (k := 7) (c := 1) (x := x14) (by decide +kernel) (by decide +kernel) (by exact e49) (fun _ => rfl) ?_
          intro x51 hx51
          refine ev_r_goto (pc := 145) (o := (-66)) (t := 79) (by decide +kernel) (by decide +kernel) ?_
          exact hK79 y42 y43 x51 hx51 s50 _ (by exact (ev_l1 e45 (by decide) (by decide))) (by exact (ev_l1 e46 (by decide) (by decide))) (by exact (ev_l1 e47 (by decide) (by decide))) (by exact (ev_l1 e48 (by decide) (by decide))) (by exact ev_lk_st1_self)
        · intro K142 hK142
          refine ev_r_if (pc := 98) (q := .eq) (o := 44) (t := 142) (c := x41 = 0) (by decide +kernel) (ev_k_eq hx41 ev_rng0) (by decide +kernel) ?_ ?_
          · intro c52
            exact hK142 y12 y13 s40 _ (by exact e16) (by exact e17) (by exact e18) (by exact e19) (by exact e20)
          · intro c52
            refine ev_r_lload_n (pc := 101) (k := 3) (v := y12) (by decide +kernel) (by exact e18) ?_
            refine ev_r_iload (pc := 102) (k := 7) (v := Int32.ofInt x14) (by decide +kernel) (by exact e20) ?_
            refine ev_r_bipush (pc := 104) (k := 64) (by decide +kernel) (by decide +kernel) ?_
            refine ev_r_jn (Q := fun K => ∀ (y54 : Int64), ∀ (y53 : Int64), ∀ (s60 : ev_St) (w55 : List (Nat × Value)), ev_lk w55 0 = some (.ref 6) → ev_lk w55 2 = some (.int (Int32.ofInt x4)) → ev_lk w55 5 = some (.long y13) → ev_lk w55 7 = some (.int (Int32.ofInt x14)) → ev_w none (ev_Mof 26) d 117 w55 [.long y54, .long y53] s60 (K y54 y53 s60) ev_eI ev_bl) ?_ ?_
            · intro y54 y53 s60 w55 e56 e57 e58 e59
              refine ev_r_toL (pc := 117) (i := .lor) (len := 1) (pc' := 118) (by decide +kernel) rfl ?_
              intro y61
              refine ev_r_lstore_n (pc := 118) (k := 3) (by decide +kernel) (by decide +kernel) rfl ?_
              refine ev_r_lload (pc := 119) (k := 5) (v := y13) (by decide +kernel) (by exact (ev_l2 e58 (by decide) (by decide) (Or.inl (by decide)))) ?_
              refine ev_r_iload (pc := 121) (k := 7) (v := Int32.ofInt x14) (by decide +kernel) (by exact (ev_l2 e59 (by decide) (by decide) (Or.inl (by decide)))) ?_
              refine ev_r_bipush (pc := 123) (k := 64) (by decide +kernel) (by decide +kernel) ?_
              refine ev_r_jn (Q := fun K => ∀ (y62 : Int64), ∀ (y64 : Int64), ∀ (y63 : Int64), ∀ (s70 : ev_St) (w65 : List (Nat × Value)), ev_lk w65 0 = some (.ref 6) → ev_lk w65 2 = some (.int (Int32.ofInt x4)) → ev_lk w65 3 = some (.long y62) → ev_lk w65 7 = some (.int (Int32.ofInt x14)) → ev_w none (ev_Mof 26) d 139 w65 [.long y64, .long y63] s70 (K y62 y64 y63 s70) ev_eI ev_bl) ?_ ?_
              · intro y62 y64 y63 s70 w65 e66 e67 e68 e69
                refine ev_r_toL (pc := 139) (i := .lor) (len := 1) (pc' := 140) (by decide +kernel) rfl ?_
                intro y71
                refine ev_r_lstore (pc := 140) (k := 5) (by decide +kernel) (by decide +kernel) rfl ?_
                exact hK142 y62 y71 s70 _ (by exact (ev_l2 e66 (by decide) (by decide) (Or.inl (by decide)))) (by exact (ev_l2 e67 (by decide) (by decide) (Or.inl (by decide)))) (by exact (ev_l2 e68 (by decide) (by decide) (Or.inl (by decide)))) (by exact ev_l2s) (by exact (ev_l2 e69 (by decide) (by decide) (Or.inl (by decide))))
              · intro K139 hK139
                refine ev_r_icmp (pc := 125) (q := .ge) (o := 7) (t := 132) (c := 64 ≤ x14) (by decide +kernel) (ev_k_ge hx14 (by decide)) (by decide +kernel) ?_ ?_
                · intro c72
                  refine ev_r_lconst (pc := 132) (c := 1) (by decide +kernel) ?_
                  refine ev_r_iload (pc := 133) (k := 7) (v := Int32.ofInt x14) (by decide +kernel) (by exact (ev_l2 e59 (by decide) (by decide) (Or.inl (by decide)))) ?_
                  refine ev_r_bipush (pc := 135) (k := 64) (by decide +kernel) (by decide +kernel) ?_
                  refine ev_r_isub (pc := 137) (by decide +kernel) ?_
                  intro x73 hx73
                  refine ev_r_toL (pc := 138) (i := .lshl) (len := 1) (pc' := 139) (by decide +kernel) rfl ?_
                  intro y74
                  exact hK139 y61 y74 y13 s60 _ (by exact (ev_l2 e56 (by decide) (by decide) (Or.inl (by decide)))) (by exact (ev_l2 e57 (by decide) (by decide) (Or.inr rfl))) (by exact ev_l2s) (by exact (ev_l2 e59 (by decide) (by decide) (Or.inl (by decide))))
                · intro c72
                  refine ev_r_lconst (pc := 128) (c := 0) (by decide +kernel) ?_
                  refine ev_r_goto (pc := 129) (o := 10) (t := 139) (by decide +kernel) (by decide +kernel) ?_
                  exact hK139 y61 ((Int64.ofNat ((0 : Fin 2) : Nat))) y13 s60 _ (by exact (ev_l2 e56 (by decide) (by decide) (Or.inl (by decide)))) (by exact (ev_l2 e57 (by decide) (by decide) (Or.inr rfl))) (by exact ev_l2s) (by exact (ev_l2 e59 (by decide) (by decide) (Or.inl (by decide))))
            · intro K117 hK117
              refine ev_r_icmp (pc := 106) (q := .ge) (o := 10) (t := 116) (c := 64 ≤ x14) (by decide +kernel) (ev_k_ge hx14 (by decide)) (by decide +kernel) ?_ ?_
              · intro c75
                refine ev_r_lconst (pc := 116) (c := 0) (by decide +kernel) ?_
                exact hK117 ((Int64.ofNat ((0 : Fin 2) : Nat))) y12 s40 _ (by exact e16) (by exact e17) (by exact e19) (by exact e20)
              · intro c75
                refine ev_r_lconst (pc := 109) (c := 1) (by decide +kernel) ?_
                refine ev_r_iload (pc := 110) (k := 7) (v := Int32.ofInt x14) (by decide +kernel) (by exact e20) ?_
                refine ev_r_toL (pc := 112) (i := .lshl) (len := 1) (pc' := 113) (by decide +kernel) rfl ?_
                intro y76
                refine ev_r_goto (pc := 113) (o := 4) (t := 117) (by decide +kernel) (by decide +kernel) ?_
                exact hK117 y76 y12 s40 _ (by exact e16) (by exact e17) (by exact e19) (by exact e20)
theorem jlt_26_79 (d : Nat) (hd : 3 ≤ d + 1) (Q : Nat) (x4 : Int) (hx4 : ev_rng x4)   : ∀ q : Nat, ∀ (y12 : Int64), ∀ (y13 : Int64), ∀ (x14 : Int) (hx14 : ev_rng x14), ∀ (s21 : ev_St) (w15 : List (Nat × Value)), ev_lk w15 0 = some (.ref 6) → ev_lk w15 2 = some (.int (Int32.ofInt x4)) → ev_lk w15 3 = some (.long y12) → ev_lk w15 5 = some (.long y13) → ev_lk w15 7 = some (.int (Int32.ofInt x14)) → ev_w none (ev_Mof 26) d 79 w15 [] s21 (jl_26_79 Q x4  q y12 y13 x14 s21) ev_eI ev_bl := by
  intro q
  induction q with
  | zero =>
    intro y12 y13 x14 hx14 s21 w15 e16 e17 e18 e19 e20
    exact ev_w_none
  | succ q ih => exact jbt_26_79 d hd Q x4 hx4   _ ih
/-- MendBench$ClassReader.readRange()Z -/
def jm_26 (Q : Nat)  (S : ev_St) : Option ((Int) × ev_St) := ev_bd (jm_27 Q  S) fun x2 s1 => ev_jn (fun (x3 : Int) (x4 : Int) (s9 : ev_St) => if x3 < 0 then (some (0, s9)) else (if x3 ≤ x4 then (jl_26_79 Q x4  Q ((Int64.ofNat ((0 : Fin 2) : Nat))) ((Int64.ofNat ((0 : Fin 2) : Nat))) x3 s9) else (some (0, s9)))) fun K60 => if x2 < 0 then (K60 x2 x2 s1) else (ev_b (s1.2.2.1 6 8) fun r78 => ev_b (s1.1 6 9) fun x79 => ev_if (r78 ≠ 0) (ev_bd (jm_151 Q ((r78 - 1)) x79 s1) fun x82 s81 => if x82 ≠ 45 then (K60 x2 x2 s81) else (ev_b (s81.2.2.1 6 8) fun r84 => ev_b (s81.1 6 9) fun x85 => ev_ck (x85 + 1) fun x86 => ev_if (r84 ≠ 0) (ev_bd (jm_151 Q ((r84 - 1)) x86 s81) fun x89 s88 => if x89 = 45 then (K60 x2 x2 s88) else (ev_b (s88.1 6 9) fun x91 => ev_ck (x91 + 1) fun x92 => ev_b (ev_pI s88 6 9 x92) fun s93 => ev_bd (jm_27 Q  s93) fun x95 s94 => K60 x2 x95 s94)))))
theorem jt_26 (d : Nat) (hd : 3 ≤ d) (Q : Nat)   (S : ev_St) (x : Int) (S' : ev_St) (hJ : jm_26 Q  S = some (x, S')) : ev_Ref d 26 [.ref 6] S (ev_eI x) S' (ev_bl x) := by
  obtain ⟨d, rfl⟩ : ∃ e, d = e + 1 := ⟨d - 1, by omega⟩
  refine ev_ref_of (P := ev_bl) (lv := [(0, .ref 6)]) (by decide +kernel) (by (try simp only [ev_sum, ev_nv_cat]); first | done | rfl) (by (try simp only [lv_args, ev_nv_cat]); first | done | rfl) ?_ x S' hJ
  unfold jm_26
  refine ev_r_aload_n (pc := 0) (k := 0) (v := .ref 6) trivial (by decide +kernel) (by rfl) ?_
  refine ev_r_virt (pc := 1) (y := 106) (mi := 27) (na := 0) (k := 6) (as := []) (rest := []) (encc := ev_oI) (Q := ev_rng) (fun x S1 h => jt_27 d (by omega) Q   S x S1 h) (by exact ev_ob_6) (by decide +kernel) (by decide +kernel) (by decide +kernel) (by decide +kernel) rfl (by (try simp only [ev_sum, ev_nv_cat]); first | done | rfl) ?_
  intro x2 s1 hx2
  show ev_w _ _ _ _ _ [.int (Int32.ofInt x2)] _ _ _ _
  refine ev_r_istore_n (pc := 4) (k := 1) (by decide +kernel) (by decide +kernel) rfl ?_
  refine ev_r_iload_n (pc := 5) (k := 1) (v := Int32.ofInt x2) (by decide +kernel) (by exact ev_lk_st1_self) ?_
  refine ev_r_istore_n (pc := 6) (k := 2) (by decide +kernel) (by decide +kernel) rfl ?_
  refine ev_r_iload_n (pc := 7) (k := 1) (v := Int32.ofInt x2) (by decide +kernel) (by exact (ev_lk_st1 ev_lk_st1_self (by decide) rfl)) ?_
  refine ev_r_jn (Q := fun K => ∀ (x3 : Int) (hx3 : ev_rng x3), ∀ (x4 : Int) (hx4 : ev_rng x4), ∀ (s9 : ev_St) (w5 : List (Nat × Value)), ev_lk w5 0 = some (.ref 6) → ev_lk w5 1 = some (.int (Int32.ofInt x3)) → ev_lk w5 2 = some (.int (Int32.ofInt x4)) → ev_w none (ev_Mof 26) d 60 w5 [] s9 (K x3 x4 s9) ev_eI ev_bl) ?_ ?_
  · intro x3 hx3 x4 hx4 s9 w5 e6 e7 e8
    refine ev_r_iload_n (pc := 60) (k := 1) (v := Int32.ofInt x3) (by decide +kernel) (by exact e7) ?_
    refine ev_r_if (pc := 61) (q := .lt) (o := 8) (t := 69) (c := x3 < 0) (by decide +kernel) (ev_k_lt hx3 ev_rng0) (by decide +kernel) ?_ ?_
    · intro c10
      refine ev_r_iconst (pc := 69) (k := 0) (by decide +kernel) ?_
      exact ev_r_ireturn (pc := 70) (x := 0) (v := Int32.ofInt 0) (ty := .boolean) (by decide : ev_bl 0) (by decide +kernel) (by decide +kernel) (ev_ret_bl (by decide : ev_bl 0)) rfl
    · intro c10
      refine ev_r_iload_n (pc := 64) (k := 2) (v := Int32.ofInt x4) (by decide +kernel) (by exact e8) ?_
      refine ev_r_iload_n (pc := 65) (k := 1) (v := Int32.ofInt x3) (by decide +kernel) (by exact e7) ?_
      refine ev_r_icmp (pc := 66) (q := .ge) (o := 5) (t := 71) (c := x3 ≤ x4) (by decide +kernel) (ev_k_ge hx4 hx3) (by decide +kernel) ?_ ?_
      · intro c11
        refine ev_r_lconst (pc := 71) (c := 0) (by decide +kernel) ?_
        refine ev_r_lstore_n (pc := 72) (k := 3) (by decide +kernel) (by decide +kernel) rfl ?_
        refine ev_r_lconst (pc := 73) (c := 0) (by decide +kernel) ?_
        refine ev_r_lstore (pc := 74) (k := 5) (by decide +kernel) (by decide +kernel) rfl ?_
        refine ev_r_iload_n (pc := 76) (k := 1) (v := Int32.ofInt x3) (by decide +kernel) (by exact (ev_l2 (ev_l2 e7 (by decide) (by decide) (Or.inl (by decide))) (by decide) (by decide) (Or.inl (by decide)))) ?_
        refine ev_r_istore (pc := 77) (k := 7) (by decide +kernel) (by decide +kernel) rfl ?_
        exact jlt_26_79 d hd Q x4 hx4   Q ((Int64.ofNat ((0 : Fin 2) : Nat))) ((Int64.ofNat ((0 : Fin 2) : Nat))) x3 hx3 s9 _ (by exact (ev_l1 (ev_l2 (ev_l2 e6 (by decide) (by decide) (Or.inl (by decide))) (by decide) (by decide) (Or.inl (by decide))) (by decide) (by decide))) (by exact (ev_l1 (ev_l2 (ev_l2 e8 (by decide) (by decide) (Or.inr rfl)) (by decide) (by decide) (Or.inl (by decide))) (by decide) (by decide))) (by exact (ev_l1 (ev_l2 ev_l2s (by decide) (by decide) (Or.inl (by decide))) (by decide) (by decide))) (by exact (ev_l1 ev_l2s (by decide) (by decide))) (by exact ev_lk_st1_self)
      · intro c11
        refine ev_r_iconst (pc := 69) (k := 0) (by decide +kernel) ?_
        exact ev_r_ireturn (pc := 70) (x := 0) (v := Int32.ofInt 0) (ty := .boolean) (by decide : ev_bl 0) (by decide +kernel) (by decide +kernel) (ev_ret_bl (by decide : ev_bl 0)) rfl
  · intro K60 hK60
    refine ev_r_if (pc := 8) (q := .lt) (o := 52) (t := 60) (c := x2 < 0) (by decide +kernel) (ev_k_lt hx2 ev_rng0) (by decide +kernel) ?_ ?_
    · intro c77
      exact hK60 x2 hx2 x2 hx2 s1 _ (by exact (ev_l1 (ev_lk_st1 (by rfl) (by decide) rfl) (by decide) (by decide))) (by exact (ev_lk_st1 ev_lk_st1_self (by decide) rfl)) (by exact ev_lk_st1_self)
    · intro c77
      refine ev_r_aload_n (pc := 11) (k := 0) (v := .ref 6) trivial (by decide +kernel) (by exact (ev_l1 (ev_lk_st1 (by rfl) (by decide) rfl) (by decide) (by decide))) ?_
      refine ev_r_getR (pc := 12) (y := 35) (ci := 1) (f := 8) (fin := 0) (t := 10) (by decide +kernel) (by decide +kernel) (by exact ev_ob_6) rfl rfl ?_
      intro r78 hr78
      have hr78 : r78 = 0 ∨ ev_isOb (r78 - 1) 10 = true := hr78
      refine ev_r_aload_n (pc := 15) (k := 0) (v := .ref 6) trivial (by decide +kernel) (by exact (ev_l1 (ev_lk_st1 (by rfl) (by decide) rfl) (by decide) (by decide))) ?_
      refine ev_r_getI (pc := 16) (y := 39) (ci := 1) (f := 9) (fin := 0) (by decide +kernel) (by decide +kernel) (by exact ev_ob_6) rfl ?_
      intro x79 hx79
      refine ev_r_chk ?_
      intro c80
      refine ev_r_dr (r := r78) (fun v => [.int (Int32.ofInt x79), v]) c80 ?_
      refine ev_r_virt (pc := 19) (y := 62) (mi := 151) (na := 1) (k := (r78 - 1)) (as := [.int (Int32.ofInt x79)]) (rest := []) (encc := ev_oI) (Q := ev_rng) (fun x S1 h => jt_151 d (by omega) Q ((r78 - 1)) x79 (hr78.resolve_left c80) hx79 s1 x S1 h) (by exact (hr78.resolve_left c80)) (by decide +kernel) (by decide +kernel) (by decide +kernel) (by decide +kernel) rfl (by (try simp only [ev_sum, ev_nv_cat]); first | done | rfl) ?_
      intro x82 s81 hx82
      show ev_w _ _ _ _ _ [.int (Int32.ofInt x82)] _ _ _ _
      refine ev_r_bipush (pc := 22) (k := 45) (by decide +kernel) (by decide +kernel) ?_
      refine ev_r_icmp (pc := 24) (q := .ne) (o := 36) (t := 60) (c := x82 ≠ 45) (by decide +kernel) (ev_k_ne hx82 (by decide)) (by decide +kernel) ?_ ?_
      · intro c83
        exact hK60 x2 hx2 x2 hx2 s81 _ (by exact (ev_l1 (ev_lk_st1 (by rfl) (by decide) rfl) (by decide) (by decide))) (by exact (ev_lk_st1 ev_lk_st1_self (by decide) rfl)) (by exact ev_lk_st1_self)
      · intro c83
        refine ev_r_aload_n (pc := 27) (k := 0) (v := .ref 6) trivial (by decide +kernel) (by exact (ev_l1 (ev_lk_st1 (by rfl) (by decide) rfl) (by decide) (by decide))) ?_
        refine ev_r_getR (pc := 28) (y := 35) (ci := 1) (f := 8) (fin := 0) (t := 10) (by decide +kernel) (by decide +kernel) (by exact ev_ob_6) rfl rfl ?_
        intro r84 hr84
        have hr84 : r84 = 0 ∨ ev_isOb (r84 - 1) 10 = true := hr84
        refine ev_r_aload_n (pc := 31) (k := 0) (v := .ref 6) trivial (by decide +kernel) (by exact (ev_l1 (ev_lk_st1 (by rfl) (by decide) rfl) (by decide) (by decide))) ?_
        refine ev_r_getI (pc := 32) (y := 39) (ci := 1) (f := 9) (fin := 0) (by decide +kernel) (by decide +kernel) (by exact ev_ob_6) rfl ?_
        intro x85 hx85
        refine ev_r_iconst (pc := 35) (k := 1) (by decide +kernel) ?_
        refine ev_r_iadd (pc := 36) (by decide +kernel) ?_
        intro x86 hx86
        refine ev_r_chk ?_
        intro c87
        refine ev_r_dr (r := r84) (fun v => [.int (Int32.ofInt x86), v]) c87 ?_
        refine ev_r_virt (pc := 37) (y := 62) (mi := 151) (na := 1) (k := (r84 - 1)) (as := [.int (Int32.ofInt x86)]) (rest := []) (encc := ev_oI) (Q := ev_rng) (fun x S1 h => jt_151 d (by omega) Q ((r84 - 1)) x86 (hr84.resolve_left c87) hx86 s81 x S1 h) (by exact (hr84.resolve_left c87)) (by decide +kernel) (by decide +kernel) (by decide +kernel) (by decide +kernel) rfl (by (try simp only [ev_sum, ev_nv_cat]); first | done | rfl) ?_
        intro x89 s88 hx89
        show ev_w _ _ _ _ _ [.int (Int32.ofInt x89)] _ _ _ _
        refine ev_r_bipush (pc := 40) (k := 45) (by decide +kernel) (by decide +kernel) ?_
        refine ev_r_icmp (pc := 42) (q := .eq) (o := 18) (t := 60) (c := x89 = 45) (by decide +kernel) (ev_k_eq hx89 (by decide)) (by decide +kernel) ?_ ?_
        · intro c90
          exact hK60 x2 hx2 x2 hx2 s88 _ (by exact (ev_l1 (ev_lk_st1 (by rfl) (by decide) rfl) (by decide) (by decide))) (by exact (ev_lk_st1 ev_lk_st1_self (by decide) rfl)) (by exact ev_lk_st1_self)
        · intro c90
          refine ev_r_aload_n (pc := 45) (k := 0) (v := .ref 6) trivial (by decide +kernel) (by exact (ev_l1 (ev_lk_st1 (by rfl) (by decide) rfl) (by decide) (by decide))) ?_
          refine ev_r_dup (pc := 46) rfl (by decide +kernel) ?_
          refine ev_r_getI (pc := 47) (y := 39) (ci := 1) (f := 9) (fin := 0) (by decide +kernel) (by decide +kernel) (by exact ev_ob_6) rfl ?_
          intro x91 hx91
          refine ev_r_iconst (pc := 50) (k := 1) (by decide +kernel) ?_
          refine ev_r_iadd (pc := 51) (by decide +kernel) ?_
          intro x92 hx92
          refine ev_r_putI (pc := 52) (y := 39) (ci := 1) (f := 9) hx92 (by decide +kernel) (by decide +kernel) (by exact ev_ob_6) rfl rfl ?_
          intro s93
          refine ev_r_aload_n (pc := 55) (k := 0) (v := .ref 6) trivial (by decide +kernel) (by exact (ev_l1 (ev_lk_st1 (by rfl) (by decide) rfl) (by decide) (by decide))) ?_
          refine ev_r_virt (pc := 56) (y := 106) (mi := 27) (na := 0) (k := 6) (as := []) (rest := []) (encc := ev_oI) (Q := ev_rng) (fun x S1 h => jt_27 d (by omega) Q   s93 x S1 h) (by exact ev_ob_6) (by decide +kernel) (by decide +kernel) (by decide +kernel) (by decide +kernel) rfl (by (try simp only [ev_sum, ev_nv_cat]); first | done | rfl) ?_
          intro x95 s94 hx95
          show ev_w _ _ _ _ _ [.int (Int32.ofInt x95)] _ _ _ _
          refine ev_r_istore_n (pc := 59) (k := 2) (by decide +kernel) (by decide +kernel) rfl ?_
          exact hK60 x2 hx2 x95 hx95 s94 _ (by exact (ev_l1 (ev_l1 (ev_lk_st1 (by rfl) (by decide) rfl) (by decide) (by decide)) (by decide) (by decide))) (by exact (ev_lk_st1 (ev_lk_st1 ev_lk_st1_self (by decide) rfl) (by decide) rfl)) (by exact ev_lk_st1_self)
/-- MendBench$ClassReader.readElement()Z -/
def jm_21 (Q : Nat)  (S : ev_St) : Option ((Int) × ev_St) := ev_b (S.2.2.1 6 8) fun r1 => ev_b (S.1 6 9) fun x2 => ev_if (r1 ≠ 0) (ev_bd (jm_151 Q ((r1 - 1)) x2 S) fun x5 s4 => ev_b (s4.2.2.1 6 8) fun r6 => ev_b (s4.1 6 9) fun x7 => ev_ck (x7 + 1) fun x8 => ev_if (r6 ≠ 0) (ev_bd (jm_151 Q ((r6 - 1)) x8 s4) fun x11 s10 => if x5 ≠ 93 then (if x5 ≠ 91 then (ev_jn (fun  (s18 : ev_St) => ev_jn (fun  (s21 : ev_St) => ev_bd (jm_26 Q  s21) fun x23 s22 => ev_if (ev_bl x23) (some (x23, s22))) fun K137 => if x5 ≠ 92 then (K137  s18) else (ev_bd (jm_216 Q x11 s18) fun x27 s26 => if x27 = 0 then (K137  s26) else (ev_b (s26.1 6 9) fun x29 => ev_ck (x29 + 2) fun x30 => ev_b (ev_pI s26 6 9 x30) fun s31 => ev_bd (jm_217 Q x11 s31) fun y33 s32 => ev_bd (jm_218 Q x11 s32) fun y35 s34 => ev_bd (jm_22 Q y33 y35 s34) fun x37 s36 => ev_if (ev_bl x37) (some (x37, s36))))) fun K101 => if x5 ≠ x11 then (K101  s10) else (ev_jn (fun  (s43 : ev_St) => ev_b (s43.1 6 9) fun x44 => ev_ck (x44 + 2) fun x45 => ev_b (ev_pI s43 6 9 x45) fun s46 => ev_bd (jm_23 Q x5 s46) fun x48 s47 => ev_if (ev_bl x48) (some (x48, s47))) fun K85 => if x5 = 38 then (K85  s10) else (if x5 ≠ 45 then (K101  s10) else (K85  s10)))) else (ev_b (s10.1 6 9) fun x52 => ev_ck (x52 + 1) fun x53 => ev_b (ev_pI s10 6 9 x53) fun s54 => ev_bd (jm_19 Q  s54) fun x56 s55 => ev_if (ev_bl x56) (some (x56, s55)))) else (ev_b (s10.1 6 9) fun x58 => ev_ck (x58 + 1) fun x59 => ev_b (ev_pI s10 6 9 x59) fun s60 => ev_bd (jm_25 Q  s60) fun x62 s61 => ev_if (ev_bl x62) (some (x62, s61)))))
theorem jt_21 (d : Nat) (hd : 4 ≤ d) (Q : Nat)   (S : ev_St) (x : Int) (S' : ev_St) (hJ : jm_21 Q  S = some (x, S')) : ev_Ref d 21 [.ref 6] S (ev_eI x) S' (ev_bl x) := by
  obtain ⟨d, rfl⟩ : ∃ e, d = e + 1 := ⟨d - 1, by omega⟩
  refine ev_ref_of (P := ev_bl) (lv := [(0, .ref 6)]) (by decide +kernel) (by (try simp only [ev_sum, ev_nv_cat]); first | done | rfl) (by (try simp only [lv_args, ev_nv_cat]); first | done | rfl) ?_ x S' hJ
  unfold jm_21
  refine ev_r_aload_n (pc := 0) (k := 0) (v := .ref 6) trivial (by decide +kernel) (by rfl) ?_
  refine ev_r_getR (pc := 1) (y := 35) (ci := 1) (f := 8) (fin := 0) (t := 10) (by decide +kernel) (by decide +kernel) (by exact ev_ob_6) rfl rfl ?_
  intro r1 hr1
  have hr1 : r1 = 0 ∨ ev_isOb (r1 - 1) 10 = true := hr1
  refine ev_r_aload_n (pc := 4) (k := 0) (v := .ref 6) trivial (by decide +kernel) (by rfl) ?_
  refine ev_r_getI (pc := 5) (y := 39) (ci := 1) (f := 9) (fin := 0) (by decide +kernel) (by decide +kernel) (by exact ev_ob_6) rfl ?_
  intro x2 hx2
  refine ev_r_chk ?_
  intro c3
  refine ev_r_dr (r := r1) (fun v => [.int (Int32.ofInt x2), v]) c3 ?_
  refine ev_r_virt (pc := 8) (y := 62) (mi := 151) (na := 1) (k := (r1 - 1)) (as := [.int (Int32.ofInt x2)]) (rest := []) (encc := ev_oI) (Q := ev_rng) (fun x S1 h => jt_151 d (by omega) Q ((r1 - 1)) x2 (hr1.resolve_left c3) hx2 S x S1 h) (by exact (hr1.resolve_left c3)) (by decide +kernel) (by decide +kernel) (by decide +kernel) (by decide +kernel) rfl (by (try simp only [ev_sum, ev_nv_cat]); first | done | rfl) ?_
  intro x5 s4 hx5
  show ev_w _ _ _ _ _ [.int (Int32.ofInt x5)] _ _ _ _
  refine ev_r_istore_n (pc := 11) (k := 1) (by decide +kernel) (by decide +kernel) rfl ?_
  refine ev_r_aload_n (pc := 12) (k := 0) (v := .ref 6) trivial (by decide +kernel) (by exact (ev_lk_st1 (by rfl) (by decide) rfl)) ?_
  refine ev_r_getR (pc := 13) (y := 35) (ci := 1) (f := 8) (fin := 0) (t := 10) (by decide +kernel) (by decide +kernel) (by exact ev_ob_6) rfl rfl ?_
  intro r6 hr6
  have hr6 : r6 = 0 ∨ ev_isOb (r6 - 1) 10 = true := hr6
  refine ev_r_aload_n (pc := 16) (k := 0) (v := .ref 6) trivial (by decide +kernel) (by exact (ev_lk_st1 (by rfl) (by decide) rfl)) ?_
  refine ev_r_getI (pc := 17) (y := 39) (ci := 1) (f := 9) (fin := 0) (by decide +kernel) (by decide +kernel) (by exact ev_ob_6) rfl ?_
  intro x7 hx7
  refine ev_r_iconst (pc := 20) (k := 1) (by decide +kernel) ?_
  refine ev_r_iadd (pc := 21) (by decide +kernel) ?_
  intro x8 hx8
  refine ev_r_chk ?_
  intro c9
  refine ev_r_dr (r := r6) (fun v => [.int (Int32.ofInt x8), v]) c9 ?_
  refine ev_r_virt (pc := 22) (y := 62) (mi := 151) (na := 1) (k := (r6 - 1)) (as := [.int (Int32.ofInt x8)]) (rest := []) (encc := ev_oI) (Q := ev_rng) (fun x S1 h => jt_151 d (by omega) Q ((r6 - 1)) x8 (hr6.resolve_left c9) hx8 s4 x S1 h) (by exact (hr6.resolve_left c9)) (by decide +kernel) (by decide +kernel) (by decide +kernel) (by decide +kernel) rfl (by (try simp only [ev_sum, ev_nv_cat]); first | done | rfl) ?_
  intro x11 s10 hx11
  show ev_w _ _ _ _ _ [.int (Int32.ofInt x11)] _ _ _ _
  refine ev_r_istore_n (pc := 25) (k := 2) (by decide +kernel) (by decide +kernel) rfl ?_
  refine ev_r_iload_n (pc := 26) (k := 1) (v := Int32.ofInt x5) (by decide +kernel) (by exact (ev_lk_st1 ev_lk_st1_self (by decide) rfl)) ?_
  refine ev_r_bipush (pc := 27) (k := 93) (by decide +kernel) (by decide +kernel) ?_
  refine ev_r_icmp (pc := 29) (q := .ne) (o := 18) (t := 47) (c := x5 ≠ 93) (by decide +kernel) (ev_k_ne hx5 (by decide)) (by decide +kernel) ?_ ?_
  · intro c12
    refine ev_r_iload_n (pc := 47) (k := 1) (v := Int32.ofInt x5) (by decide +kernel) (by exact (ev_lk_st1 ev_lk_st1_self (by decide) rfl)) ?_
    refine ev_r_bipush (pc := 48) (k := 91) (by decide +kernel) (by decide +kernel) ?_
    refine ev_r_icmp (pc := 50) (q := .ne) (o := 18) (t := 68) (c := x5 ≠ 91) (by decide +kernel) (ev_k_ne hx5 (by decide)) (by decide +kernel) ?_ ?_
    · intro c13
      refine ev_r_iload_n (pc := 68) (k := 1) (v := Int32.ofInt x5) (by decide +kernel) (by exact (ev_lk_st1 ev_lk_st1_self (by decide) rfl)) ?_
      refine ev_r_iload_n (pc := 69) (k := 2) (v := Int32.ofInt x11) (by decide +kernel) (by exact ev_lk_st1_self) ?_
      refine ev_r_jn (Q := fun K => ∀ (s18 : ev_St) (w14 : List (Nat × Value)), ev_lk w14 0 = some (.ref 6) → ev_lk w14 1 = some (.int (Int32.ofInt x5)) → ev_lk w14 2 = some (.int (Int32.ofInt x11)) → ev_w none (ev_Mof 21) d 101 w14 [] s18 (K  s18) ev_eI ev_bl) ?_ ?_
      · intro  s18 w14 e15 e16 e17
        refine ev_r_iload_n (pc := 101) (k := 1) (v := Int32.ofInt x5) (by decide +kernel) (by exact e16) ?_
        refine ev_r_bipush (pc := 102) (k := 92) (by decide +kernel) (by decide +kernel) ?_
        refine ev_r_jn (Q := fun K => ∀ (s21 : ev_St) (w19 : List (Nat × Value)), ev_lk w19 0 = some (.ref 6) → ev_w none (ev_Mof 21) d 137 w19 [] s21 (K  s21) ev_eI ev_bl) ?_ ?_
        · intro  s21 w19 e20
          refine ev_r_aload_n (pc := 137) (k := 0) (v := .ref 6) trivial (by decide +kernel) (by exact e20) ?_
          refine ev_r_virt (pc := 138) (y := 87) (mi := 26) (na := 0) (k := 6) (as := []) (rest := []) (encc := ev_oI) (Q := ev_bl) (fun x S1 h => jt_26 d (by omega) Q   s21 x S1 h) (by exact ev_ob_6) (by decide +kernel) (by decide +kernel) (by decide +kernel) (by decide +kernel) rfl (by (try simp only [ev_sum, ev_nv_cat]); first | done | rfl) ?_
          intro x23 s22 hx23
          replace hx23 := ev_bl_rng hx23
          show ev_w _ _ _ _ _ [.int (Int32.ofInt x23)] _ _ _ _
          refine ev_r_chk ?_
          intro c24
          exact ev_r_ireturn (pc := 141) (x := x23) (v := Int32.ofInt x23) (ty := .boolean) c24 (by decide +kernel) (by decide +kernel) (ev_ret_bl c24) rfl
        · intro K137 hK137
          refine ev_r_icmp (pc := 104) (q := .ne) (o := 33) (t := 137) (c := x5 ≠ 92) (by decide +kernel) (ev_k_ne hx5 (by decide)) (by decide +kernel) ?_ ?_
          · intro c25
            exact hK137  s18 _ (by exact e15)
          · intro c25
            refine ev_r_iload_n (pc := 107) (k := 2) (v := Int32.ofInt x11) (by decide +kernel) (by exact e17) ?_
            refine ev_r_stat (pc := 108) (y := 73) (kind := 5) (mi := 216) (na := 1) (as := [.int (Int32.ofInt x11)]) (rest := []) (encc := ev_oI) (Q := ev_bl) (fun x S1 h => jt_216 d (by omega) Q x11 hx11 s18 x S1 h) (Or.inr (Or.inl rfl)) (by decide +kernel) (by decide +kernel) (by decide +kernel) (by decide +kernel) rfl (by (try simp only [ev_sum, ev_nv_cat]); first | done | rfl) ?_
            intro x27 s26 hx27
            replace hx27 := ev_bl_rng hx27
            show ev_w _ _ _ _ _ [.int (Int32.ofInt x27)] _ _ _ _
            refine ev_r_if (pc := 111) (q := .eq) (o := 26) (t := 137) (c := x27 = 0) (by decide +kernel) (ev_k_eq hx27 ev_rng0) (by decide +kernel) ?_ ?_
            · intro c28
              exact hK137  s26 _ (by exact e15)
            · intro c28
              refine ev_r_aload_n (pc := 114) (k := 0) (v := .ref 6) trivial (by decide +kernel) (by exact e15) ?_
              refine ev_r_dup (pc := 115) rfl (by decide +kernel) ?_
              refine ev_r_getI (pc := 116) (y := 39) (ci := 1) (f := 9) (fin := 0) (by decide +kernel) (by decide +kernel) (by exact ev_ob_6) rfl ?_
              intro x29 hx29
              refine ev_r_iconst (pc := 119) (k := 2) (by decide +kernel) ?_
              refine ev_r_iadd (pc := 120) (by decide +kernel) ?_
              intro x30 hx30
              refine ev_r_putI (pc := 121) (y := 39) (ci := 1) (f := 9) hx30 (by decide +kernel) (by decide +kernel) (by exact ev_ob_6) rfl rfl ?_
              intro s31
              refine ev_r_aload_n (pc := 124) (k := 0) (v := .ref 6) trivial (by decide +kernel) (by exact e15) ?_
              refine ev_r_iload_n (pc := 125) (k := 2) (v := Int32.ofInt x11) (by decide +kernel) (by exact e17) ?_
              refine ev_r_stat (pc := 126) (y := 76) (kind := 5) (mi := 217) (na := 1) (as := [.int (Int32.ofInt x11)]) (rest := [.ref 6]) (encc := ev_oL) (Q := ev_PU) (fun x S1 h => jt_217 d (by omega) Q x11 hx11 s31 x S1 h) (Or.inr (Or.inl rfl)) (by decide +kernel) (by decide +kernel) (by decide +kernel) (by decide +kernel) rfl (by (try simp only [ev_sum, ev_nv_cat]); first | done | rfl) ?_
              intro y33 s32 _
              show ev_w _ _ _ _ _ [.long y33, .ref 6] _ _ _ _
              refine ev_r_iload_n (pc := 129) (k := 2) (v := Int32.ofInt x11) (by decide +kernel) (by exact e17) ?_
              refine ev_r_stat (pc := 130) (y := 80) (kind := 5) (mi := 218) (na := 1) (as := [.int (Int32.ofInt x11)]) (rest := [.long y33, .ref 6]) (encc := ev_oL) (Q := ev_PU) (fun x S1 h => jt_218 d (by omega) Q x11 hx11 s32 x S1 h) (Or.inr (Or.inl rfl)) (by decide +kernel) (by decide +kernel) (by decide +kernel) (by decide +kernel) rfl (by (try simp only [ev_sum, ev_nv_cat]); first | done | rfl) ?_
              intro y35 s34 _
              show ev_w _ _ _ _ _ [.long y35, .long y33, .ref 6] _ _ _ _
              refine ev_r_virt (pc := 133) (y := 83) (mi := 22) (na := 2) (k := 6) (as := [.long y33, .long y35]) (rest := []) (encc := ev_oI) (Q := ev_bl) (fun x S1 h => jt_22 d (by omega) Q y33 y35  s34 x S1 h) (by exact ev_ob_6) (by decide +kernel) (by decide +kernel) (by decide +kernel) (by decide +kernel) rfl (by (try simp only [ev_sum, ev_nv_cat]); first | done | rfl) ?_
              intro x37 s36 hx37
              replace hx37 := ev_bl_rng hx37
              show ev_w _ _ _ _ _ [.int (Int32.ofInt x37)] _ _ _ _
              refine ev_r_chk ?_
              intro c38
              exact ev_r_ireturn (pc := 136) (x := x37) (v := Int32.ofInt x37) (ty := .boolean) c38 (by decide +kernel) (by decide +kernel) (ev_ret_bl c38) rfl
      · intro K101 hK101
        refine ev_r_icmp (pc := 70) (q := .ne) (o := 31) (t := 101) (c := x5 ≠ x11) (by decide +kernel) (ev_k_ne hx5 hx11) (by decide +kernel) ?_ ?_
        · intro c39
          exact hK101  s10 _ (by exact (ev_l1 (ev_lk_st1 (by rfl) (by decide) rfl) (by decide) (by decide))) (by exact (ev_lk_st1 ev_lk_st1_self (by decide) rfl)) (by exact ev_lk_st1_self)
        · intro c39
          refine ev_r_iload_n (pc := 73) (k := 1) (v := Int32.ofInt x5) (by decide +kernel) (by exact (ev_lk_st1 ev_lk_st1_self (by decide) rfl)) ?_
          refine ev_r_bipush (pc := 74) (k := 38) (by decide +kernel) (by decide +kernel) ?_
          refine ev_r_jn (Q := fun K => ∀ (s43 : ev_St) (w40 : List (Nat × Value)), ev_lk w40 0 = some (.ref 6) → ev_lk w40 1 = some (.int (Int32.ofInt x5)) → ev_w none (ev_Mof 21) d 85 w40 [] s43 (K  s43) ev_eI ev_bl) ?_ ?_
          · intro  s43 w40 e41 e42
            refine ev_r_aload_n (pc := 85) (k := 0) (v := .ref 6) trivial (by decide +kernel) (by exact e41) ?_
            refine ev_r_dup (pc := 86) rfl (by decide +kernel) ?_
            refine ev_r_getI (pc := 87) (y := 39) (ci := 1) (f := 9) (fin := 0) (by decide +kernel) (by decide +kernel) (by exact ev_ob_6) rfl ?_
            intro x44 hx44
            refine ev_r_iconst (pc := 90) (k := 2) (by decide +kernel) ?_
            refine ev_r_iadd (pc := 91) (by decide +kernel) ?_
            intro x45 hx45
            refine ev_r_putI (pc := 92) (y := 39) (ci := 1) (f := 9) hx45 (by decide +kernel) (by decide +kernel) (by exact ev_ob_6) rfl rfl ?_
            intro s46
            refine ev_r_aload_n (pc := 95) (k := 0) (v := .ref 6) trivial (by decide +kernel) (by exact e41) ?_
            refine ev_r_iload_n (pc := 96) (k := 1) (v := Int32.ofInt x5) (by decide +kernel) (by exact e42) ?_
            refine ev_r_virt (pc := 97) (y := 69) (mi := 23) (na := 1) (k := 6) (as := [.int (Int32.ofInt x5)]) (rest := []) (encc := ev_oI) (Q := ev_bl) (fun x S1 h => jt_23 d (by omega) Q x5 hx5 s46 x S1 h) (by exact ev_ob_6) (by decide +kernel) (by decide +kernel) (by decide +kernel) (by decide +kernel) rfl (by (try simp only [ev_sum, ev_nv_cat]); first | done | rfl) ?_
            intro x48 s47 hx48
            replace hx48 := ev_bl_rng hx48
            show ev_w _ _ _ _ _ [.int (Int32.ofInt x48)] _ _ _ _
            refine ev_r_chk ?_
            intro c49
            exact ev_r_ireturn (pc := 100) (x := x48) (v := Int32.ofInt x48) (ty := .boolean) c49 (by decide +kernel) (by decide +kernel) (ev_ret_bl c49) rfl
          · intro K85 hK85
            refine ev_r_icmp (pc := 76) (q := .eq) (o := 9) (t := 85) (c := x5 = 38) (by decide +kernel) (ev_k_eq hx5 (by decide)) (by decide +kernel) ?_ ?_
            · intro c50
              exact hK85  s10 _ (by exact (ev_l1 (ev_lk_st1 (by rfl) (by decide) rfl) (by decide) (by decide))) (by exact (ev_lk_st1 ev_lk_st1_self (by decide) rfl))
            · intro c50
              refine ev_r_iload_n (pc := 79) (k := 1) (v := Int32.ofInt x5) (by decide +kernel) (by exact (ev_lk_st1 ev_lk_st1_self (by decide) rfl)) ?_
              refine ev_r_bipush (pc := 80) (k := 45) (by decide +kernel) (by decide +kernel) ?_
              refine ev_r_icmp (pc := 82) (q := .ne) (o := 19) (t := 101) (c := x5 ≠ 45) (by decide +kernel) (ev_k_ne hx5 (by decide)) (by decide +kernel) ?_ ?_
              · intro c51
                exact hK101  s10 _ (by exact (ev_l1 (ev_lk_st1 (by rfl) (by decide) rfl) (by decide) (by decide))) (by exact (ev_lk_st1 ev_lk_st1_self (by decide) rfl)) (by exact ev_lk_st1_self)
              · intro c51
                exact hK85  s10 _ (by exact (ev_l1 (ev_lk_st1 (by rfl) (by decide) rfl) (by decide) (by decide))) (by exact (ev_lk_st1 ev_lk_st1_self (by decide) rfl))
    · intro c13
      refine ev_r_aload_n (pc := 53) (k := 0) (v := .ref 6) trivial (by decide +kernel) (by exact (ev_l1 (ev_lk_st1 (by rfl) (by decide) rfl) (by decide) (by decide))) ?_
      refine ev_r_dup (pc := 54) rfl (by decide +kernel) ?_
      refine ev_r_getI (pc := 55) (y := 39) (ci := 1) (f := 9) (fin := 0) (by decide +kernel) (by decide +kernel) (by exact ev_ob_6) rfl ?_
      intro x52 hx52
      refine ev_r_iconst (pc := 58) (k := 1) (by decide +kernel) ?_
      refine ev_r_iadd (pc := 59) (by decide +kernel) ?_
      intro x53 hx53
      refine ev_r_putI (pc := 60) (y := 39) (ci := 1) (f := 9) hx53 (by decide +kernel) (by decide +kernel) (by exact ev_ob_6) rfl rfl ?_
      intro s54
      refine ev_r_aload_n (pc := 63) (k := 0) (v := .ref 6) trivial (by decide +kernel) (by exact (ev_l1 (ev_lk_st1 (by rfl) (by decide) rfl) (by decide) (by decide))) ?_
      refine ev_r_virt (pc := 64) (y := 50) (mi := 19) (na := 0) (k := 6) (as := []) (rest := []) (encc := ev_oI) (Q := ev_bl) (fun x S1 h => jt_19 d (by omega) Q   s54 x S1 h) (by exact ev_ob_6) (by decide +kernel) (by decide +kernel) (by decide +kernel) (by decide +kernel) rfl (by (try simp only [ev_sum, ev_nv_cat]); first | done | rfl) ?_
      intro x56 s55 hx56
      replace hx56 := ev_bl_rng hx56
      show ev_w _ _ _ _ _ [.int (Int32.ofInt x56)] _ _ _ _
      refine ev_r_chk ?_
      intro c57
      exact ev_r_ireturn (pc := 67) (x := x56) (v := Int32.ofInt x56) (ty := .boolean) c57 (by decide +kernel) (by decide +kernel) (ev_ret_bl c57) rfl
  · intro c12
    refine ev_r_aload_n (pc := 32) (k := 0) (v := .ref 6) trivial (by decide +kernel) (by exact (ev_l1 (ev_lk_st1 (by rfl) (by decide) rfl) (by decide) (by decide))) ?_
    refine ev_r_dup (pc := 33) rfl (by decide +kernel) ?_
    refine ev_r_getI (pc := 34) (y := 39) (ci := 1) (f := 9) (fin := 0) (by decide +kernel) (by decide +kernel) (by exact ev_ob_6) rfl ?_
    intro x58 hx58
    refine ev_r_iconst (pc := 37) (k := 1) (by decide +kernel) ?_
    refine ev_r_iadd (pc := 38) (by decide +kernel) ?_
    intro x59 hx59
    refine ev_r_putI (pc := 39) (y := 39) (ci := 1) (f := 9) hx59 (by decide +kernel) (by decide +kernel) (by exact ev_ob_6) rfl rfl ?_
    intro s60
    refine ev_r_aload_n (pc := 42) (k := 0) (v := .ref 6) trivial (by decide +kernel) (by exact (ev_l1 (ev_lk_st1 (by rfl) (by decide) rfl) (by decide) (by decide))) ?_
    refine ev_r_virt (pc := 43) (y := 66) (mi := 25) (na := 0) (k := 6) (as := []) (rest := []) (encc := ev_oI) (Q := ev_bl) (fun x S1 h => jt_25 d (by omega) Q   s60 x S1 h) (by exact ev_ob_6) (by decide +kernel) (by decide +kernel) (by decide +kernel) (by decide +kernel) rfl (by (try simp only [ev_sum, ev_nv_cat]); first | done | rfl) ?_
    intro x62 s61 hx62
    replace hx62 := ev_bl_rng hx62
    show ev_w _ _ _ _ _ [.int (Int32.ofInt x62)] _ _ _ _
    refine ev_r_chk ?_
    intro c63
    exact ev_r_ireturn (pc := 46) (x := x62) (v := Int32.ofInt x62) (ty := .boolean) c63 (by decide +kernel) (by decide +kernel) (ev_ret_bl c63) rfl
