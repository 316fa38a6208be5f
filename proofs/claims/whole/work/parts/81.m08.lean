/-! METHODS as functions, laid by decomp.py -/
theorem ev_ob_621 : ev_isOb 621 13 = true := (by decide +kernel)
theorem ev_ab_622 : ev_isAb 622 1 .int = true := (by decide +kernel)
theorem ev_ab_644 : ev_isAb 644 1 .int = true := (by decide +kernel)
theorem ev_ab_645 : ev_isAb 645 1 .int = true := (by decide +kernel)
theorem ev_ab_623 : ev_isAb 623 1 .int = true := (by decide +kernel)
theorem ev_ab_624 : ev_isAb 624 1 .int = true := (by decide +kernel)
theorem ev_ab_635 : ev_isAb 635 1 .int = true := (by decide +kernel)
theorem ev_ab_625 : ev_isAb 625 1 .int = true := (by decide +kernel)
theorem ev_ab_626 : ev_isAb 626 1 .int = true := (by decide +kernel)
theorem ev_ab_627 : ev_isAb 627 1 .int = true := (by decide +kernel)
theorem ev_ab_628 : ev_isAb 628 1 .int = true := (by decide +kernel)
theorem ev_ab_629 : ev_isAb 629 1 .int = true := (by decide +kernel)
theorem ev_ab_630 : ev_isAb 630 1 .int = true := (by decide +kernel)
theorem ev_ab_631 : ev_isAb 631 1 .int = true := (by decide +kernel)
theorem ev_ab_632 : ev_isAb 632 1 .int = true := (by decide +kernel)
theorem ev_ab_633 : ev_isAb 633 2 .long = true := (by decide +kernel)
theorem ev_ab_634 : ev_isAb 634 2 .long = true := (by decide +kernel)
theorem ev_ab_646 : ev_isAb 646 1 .int = true := (by decide +kernel)
theorem ev_ab_647 : ev_isAb 647 1 .int = true := (by decide +kernel)
theorem ev_ab_648 : ev_isAb 648 1 .int = true := (by decide +kernel)
theorem ev_ab_649 : ev_isAb 649 1 .int = true := (by decide +kernel)
theorem ev_ab_650 : ev_isAb 650 1 .boolean = true := (by decide +kernel)
theorem ev_ab_651 : ev_isAb 651 2 .long = true := (by decide +kernel)
theorem ev_ab_657 : ev_isAb 657 1 .int = true := (by decide +kernel)
theorem ev_ab_652 : ev_isAb 652 2 .long = true := (by decide +kernel)
theorem ev_ab_653 : ev_isAb 653 2 .long = true := (by decide +kernel)
theorem ev_ab_654 : ev_isAb 654 2 .long = true := (by decide +kernel)
theorem ev_ab_656 : ev_isAb 656 1 .boolean = true := (by decide +kernel)
theorem ev_ab_655 : ev_isAb 655 1 .boolean = true := (by decide +kernel)
/-- MendBench.streamAt(I)LMendBench$Stream; -/
def jm_202 (Q : Nat) (a0 : Int) (S : ev_St) : Option ((Nat) × ev_St) := if a0 < 0 then (some (0, S)) else (ev_b (S.1 0 18) fun x2 => if x2 ≤ a0 then (some (0, S)) else (if 4 ≤ a0 then (some (0, S)) else (ev_if ((0 : Int) ≤ a0 ∧ a0 < (4 : Int)) (ev_b (569 + 13 * Int.toNat a0) fun _ => some (((569 + 13 * Int.toNat a0)) + 1, S)))))
theorem jt_202 (d : Nat) (hd : 1 ≤ d) (Q : Nat) (a0 : Int) (ha0 : ev_rng a0) (S : ev_St) (x : Nat) (S' : ev_St) (hJ : jm_202 Q a0 S = some (x, S')) : ev_Ref d 202 [.ref 0, .int (Int32.ofInt a0)] S (ev_eR x) S' ((fun r => r = 0 ∨ ev_isOb (r - 1) 9 = true) x) := by
  obtain ⟨d, rfl⟩ : ∃ e, d = e + 1 := ⟨d - 1, by omega⟩
  refine ev_ref_of (P := (fun r => r = 0 ∨ ev_isOb (r - 1) 9 = true)) (lv := [(0, .ref 0), (1, .int (Int32.ofInt a0))]) (by decide +kernel) (by (try simp only [ev_sum, ev_nv_cat]); first | done | rfl) (by (try simp only [lv_args, ev_nv_cat]); first | done | rfl) ?_ x S' hJ
  unfold jm_202
  refine ev_r_iload_n (pc := 0) (k := 1) (v := Int32.ofInt a0) (by decide +kernel) (by rfl) ?_
  refine ev_r_if (pc := 1) (q := .lt) (o := 25) (t := 26) (c := a0 < 0) (by decide +kernel) (ev_k_lt ha0 ev_rng0) (by decide +kernel) ?_ ?_
  · intro c1
    refine ev_r_null (pc := 26) (by decide +kernel) ?_
    exact ev_r_areturn (pc := 27) (x := 0) (r := 0) (C := "MendBench$Stream") (Or.inl rfl) (by decide +kernel) (by decide +kernel) rfl
  · intro c1
    refine ev_r_iload_n (pc := 4) (k := 1) (v := Int32.ofInt a0) (by decide +kernel) (by rfl) ?_
    refine ev_r_aload_n (pc := 5) (k := 0) (v := .ref 0) trivial (by decide +kernel) (by rfl) ?_
    refine ev_r_getI (pc := 6) (y := 338) (ci := 12) (f := 18) (fin := 0) (by decide +kernel) (by decide +kernel) (by exact ev_ob_0) rfl ?_
    intro x2 hx2
    refine ev_r_icmp (pc := 9) (q := .ge) (o := 17) (t := 26) (c := x2 ≤ a0) (by decide +kernel) (ev_k_ge ha0 hx2) (by decide +kernel) ?_ ?_
    · intro c3
      refine ev_r_null (pc := 26) (by decide +kernel) ?_
      exact ev_r_areturn (pc := 27) (x := 0) (r := 0) (C := "MendBench$Stream") (Or.inl rfl) (by decide +kernel) (by decide +kernel) rfl
    · intro c3
      refine ev_r_iload_n (pc := 12) (k := 1) (v := Int32.ofInt a0) (by decide +kernel) (by rfl) ?_
      refine ev_r_iconst (pc := 13) (k := 4) (by decide +kernel) ?_
      refine ev_r_icmp (pc := 14) (q := .ge) (o := 12) (t := 26) (c := 4 ≤ a0) (by decide +kernel) (ev_k_ge ha0 (by decide)) (by decide +kernel) ?_ ?_
      · intro c4
        refine ev_r_null (pc := 26) (by decide +kernel) ?_
        exact ev_r_areturn (pc := 27) (x := 0) (r := 0) (C := "MendBench$Stream") (Or.inl rfl) (by decide +kernel) (by decide +kernel) rfl
      · intro c4
        refine ev_r_aload_n (pc := 17) (k := 0) (v := .ref 0) trivial (by decide +kernel) (by rfl) ?_
        refine ev_r_getC (pc := 18) (y := 89) (ci := 12) (f := 17) (fin := 1) (k' := 312) (by decide +kernel) (by decide +kernel) (by exact ev_ob_0) rfl rfl ?_
        refine ev_r_iload_n (pc := 21) (k := 1) (v := Int32.ofInt a0) (by decide +kernel) (by rfl) ?_
        refine ev_r_aald (pc := 22) (N := 4) (b := 569) (c := 13) (C := "MendBench$Stream") ha0 (by decide +kernel) (by decide +kernel) ?_
        intro c5
        refine ev_r_goto (pc := 23) (o := 4) (t := 27) (by decide +kernel) (by decide +kernel) ?_
        exact ev_r_areturn (pc := 27) (x := ((569 + 13 * Int.toNat a0)) + 1) (r := ((569 + 13 * Int.toNat a0)) + 1) (C := "MendBench$Stream") (Or.inr (ev_el_312 c5)) (by decide +kernel) (by decide +kernel) rfl
/-- MendBench.feed(I)I -/
def jm_196 (Q : Nat) (a0 : Int) (S : ev_St) : Option ((Int ⊕ String) × ev_St) := ev_bd (jm_202 Q a0 S) fun r2 s1 => if (r2 : Nat) = 0 then (some (.inr "java/lang/IndexOutOfBoundsException", ev_tick s1)) else (ev_b (s1.1 ((r2 - 1)) 3) fun x4 => if x4 ≠ 0 then (some (.inr "java/lang/IllegalStateException", ev_tick s1)) else (ev_b (s1.1 (((r2 - 1) + 1)) 1) fun x6 => ev_b (s1.1 1 1) fun x7 => ev_ck (x6 + x7) fun x8 => if x8 ≤ 80 then (ev_bd (jm_148 Q ((r2 - 1)) ((1 + 1)) s1) fun _ s10 => ev_b (ev_pI s10 1 1 0) fun s11 => ev_bd (jm_149 Q ((r2 - 1)) s11) fun x13 s12 => some ((Sum.inl x13 : Int ⊕ String), s12)) else (some (.inr "java/lang/IllegalStateException", ev_tick s1))))
theorem jt_196 (d : Nat) (hd : 7 ≤ d) (Q : Nat) (a0 : Int) (ha0 : ev_rng a0) (S : ev_St) (x : Int ⊕ String) (S' : ev_St) (hJ : jm_196 Q a0 S = some (x, S')) : ev_Ref d 196 [.ref 0, .int (Int32.ofInt a0)] S (ev_eX x) S' (ev_PX x) := by
  obtain ⟨d, rfl⟩ : ∃ e, d = e + 1 := ⟨d - 1, by omega⟩
  refine ev_ref_of (P := ev_PX) (lv := [(0, .ref 0), (1, .int (Int32.ofInt a0))]) (by decide +kernel) (by (try simp only [ev_sum, ev_nv_cat]); first | done | rfl) (by (try simp only [lv_args, ev_nv_cat]); first | done | rfl) ?_ x S' hJ
  unfold jm_196
  refine ev_r_aload_n (pc := 0) (k := 0) (v := .ref 0) trivial (by decide +kernel) (by rfl) ?_
  refine ev_r_iload_n (pc := 1) (k := 1) (v := Int32.ofInt a0) (by decide +kernel) (by rfl) ?_
  refine ev_r_virt (pc := 2) (y := 351) (mi := 202) (na := 1) (k := 0) (as := [.int (Int32.ofInt a0)]) (rest := []) (encc := ev_oR) (Q := (fun r => r = 0 ∨ ev_isOb (r - 1) 9 = true)) (fun x S1 h => jt_202 d (by omega) Q a0 ha0 S x S1 h) (by exact ev_ob_0) (by decide +kernel) (by decide +kernel) (by decide +kernel) (by decide +kernel) rfl (by (try simp only [ev_sum, ev_nv_cat]); first | done | rfl) ?_
  intro r2 s1 hr2
  show ev_w _ _ _ _ _ [ev_nv r2] _ _ _ _
  refine ev_r_astore_n (pc := 5) (k := 2) (ev_isR_nv _) (by decide +kernel) (by decide +kernel) rfl ?_
  refine ev_r_aload_n (pc := 6) (k := 2) (v := ev_nv r2) (ev_isR_nv _) (by decide +kernel) (by exact ev_lk_st1_self) ?_
  refine ev_r_ifnonnull (pc := 7) (r := r2) (o := 14) (t := 21) (by decide +kernel) (by decide +kernel) ?_ ?_
  · intro c3
    refine ev_r_aload_n (pc := 21) (k := 2) (v := ev_nv r2) (ev_isR_nv _) (by decide +kernel) (by exact ev_lk_st1_self) ?_
    refine ev_r_dr (r := r2) (fun v => [v]) c3 ?_
    refine ev_r_getI (pc := 22) (y := 357) (ci := 9) (f := 3) (fin := 0) (by decide +kernel) (by decide +kernel) (by exact (hr2.resolve_left c3)) rfl ?_
    intro x4 hx4
    refine ev_r_if (pc := 25) (q := .ne) (o := 23) (t := 48) (c := x4 ≠ 0) (by decide +kernel) (ev_k_ne hx4 ev_rng0) (by decide +kernel) ?_ ?_
    · intro c5
      exact ev_r_throw (pc := 48) (x := (Sum.inr "java/lang/IllegalStateException" : Int ⊕ String)) (y := 109) (E := "java/lang/IllegalStateException") trivial (by decide +kernel) (by decide +kernel) (by decide +kernel) (Nat.ble_eq.mpr (by omega)) rfl
    · intro c5
      refine ev_r_aload_n (pc := 28) (k := 2) (v := ev_nv r2) (ev_isR_nv _) (by decide +kernel) (by exact ev_lk_st1_self) ?_
      refine ev_r_dr (r := r2) (fun v => [v]) c3 ?_
      refine ev_r_getC (pc := 29) (y := 360) (ci := 9) (f := 0) (fin := 2) (k' := ((r2 - 1) + 1)) (by decide +kernel) (by decide +kernel) (by exact (hr2.resolve_left c3)) rfl rfl ?_
      refine ev_r_getI (pc := 32) (y := 105) (ci := 10) (f := 1) (fin := 0) (by decide +kernel) (by decide +kernel) (by exact (ev_fo_9_0 (hr2.resolve_left c3))) rfl ?_
      intro x6 hx6
      refine ev_r_aload_n (pc := 35) (k := 0) (v := .ref 0) trivial (by decide +kernel) (by exact (ev_l1 (by rfl) (by decide) (by decide))) ?_
      refine ev_r_getC (pc := 36) (y := 12) (ci := 12) (f := 0) (fin := 1) (k' := 1) (by decide +kernel) (by decide +kernel) (by exact ev_ob_0) rfl rfl ?_
      refine ev_r_getI (pc := 39) (y := 105) (ci := 10) (f := 1) (fin := 0) (by decide +kernel) (by decide +kernel) (by exact ev_ob_1) rfl ?_
      intro x7 hx7
      refine ev_r_iadd (pc := 42) (by decide +kernel) ?_
      intro x8 hx8
      refine ev_r_bipush (pc := 43) (k := 80) (by decide +kernel) (by decide +kernel) ?_
      refine ev_r_icmp (pc := 45) (q := .le) (o := 14) (t := 59) (c := x8 ≤ 80) (by decide +kernel) (ev_k_le hx8 (by decide)) (by decide +kernel) ?_ ?_
      · intro c9
        refine ev_r_aload_n (pc := 59) (k := 2) (v := ev_nv r2) (ev_isR_nv _) (by decide +kernel) (by exact ev_lk_st1_self) ?_
        refine ev_r_aload_n (pc := 60) (k := 0) (v := .ref 0) trivial (by decide +kernel) (by exact (ev_l1 (by rfl) (by decide) (by decide))) ?_
        refine ev_r_getC (pc := 61) (y := 12) (ci := 12) (f := 0) (fin := 1) (k' := 1) (by decide +kernel) (by decide +kernel) (by exact ev_ob_0) rfl rfl ?_
        refine ev_r_dr (r := r2) (fun v => [.ref 1, v]) c3 ?_
        refine ev_r_virt (pc := 64) (y := 365) (mi := 148) (na := 1) (k := (r2 - 1)) (as := [ev_nv ((1 + 1))]) (rest := []) (encc := ev_oU) (Q := ev_PU) (fun x S1 h => jt_148 d (by omega) Q ((r2 - 1)) ((1 + 1)) (hr2.resolve_left c3) (by exact (Or.inr ev_ob_1)) s1 x S1 h) (by exact (hr2.resolve_left c3)) (by decide +kernel) (by decide +kernel) (by decide +kernel) (by decide +kernel) rfl (by (try simp only [ev_sum, ev_nv_cat]); first | done | rfl) ?_
        intro _ s10 _
        show ev_w _ _ _ _ _ [] _ _ _ _
        refine ev_r_aload_n (pc := 67) (k := 0) (v := .ref 0) trivial (by decide +kernel) (by exact (ev_l1 (by rfl) (by decide) (by decide))) ?_
        refine ev_r_getC (pc := 68) (y := 12) (ci := 12) (f := 0) (fin := 1) (k' := 1) (by decide +kernel) (by decide +kernel) (by exact ev_ob_0) rfl rfl ?_
        refine ev_r_iconst (pc := 71) (k := 0) (by decide +kernel) ?_
        refine ev_r_putI (pc := 72) (y := 105) (ci := 10) (f := 1) (by decide) (by decide +kernel) (by decide +kernel) (by exact ev_ob_1) rfl rfl ?_
        intro s11
        refine ev_r_aload_n (pc := 75) (k := 2) (v := ev_nv r2) (ev_isR_nv _) (by decide +kernel) (by exact ev_lk_st1_self) ?_
        refine ev_r_dr (r := r2) (fun v => [v]) c3 ?_
        refine ev_r_virt (pc := 76) (y := 368) (mi := 149) (na := 0) (k := (r2 - 1)) (as := []) (rest := []) (encc := ev_oI) (Q := ev_rng) (fun x S1 h => jt_149 d (by omega) Q ((r2 - 1)) (hr2.resolve_left c3) s11 x S1 h) (by exact (hr2.resolve_left c3)) (by decide +kernel) (by decide +kernel) (by decide +kernel) (by decide +kernel) rfl (by (try simp only [ev_sum, ev_nv_cat]); first | done | rfl) ?_
        intro x13 s12 hx13
        show ev_w _ _ _ _ _ [.int (Int32.ofInt x13)] _ _ _ _
        exact ev_r_ireturn (pc := 79) (x := (Sum.inl x13 : Int ⊕ String)) (v := Int32.ofInt x13) (ty := .int) hx13 (by decide +kernel) (by decide +kernel) rfl rfl
      · intro c9
        exact ev_r_throw (pc := 48) (x := (Sum.inr "java/lang/IllegalStateException" : Int ⊕ String)) (y := 109) (E := "java/lang/IllegalStateException") trivial (by decide +kernel) (by decide +kernel) (by decide +kernel) (Nat.ble_eq.mpr (by omega)) rfl
  · intro c3
    exact ev_r_throw (pc := 10) (x := (Sum.inr "java/lang/IndexOutOfBoundsException" : Int ⊕ String)) (y := 160) (E := "java/lang/IndexOutOfBoundsException") trivial (by decide +kernel) (by decide +kernel) (by decide +kernel) (Nat.ble_eq.mpr (by omega)) rfl
/-- MendBench.finish(I)I -/
def jm_197 (Q : Nat) (a0 : Int) (S : ev_St) : Option ((Int ⊕ String) × ev_St) := ev_bd (jm_202 Q a0 S) fun r2 s1 => if (r2 : Nat) = 0 then (some (.inr "java/lang/IndexOutOfBoundsException", ev_tick s1)) else (ev_b (s1.1 ((r2 - 1)) 3) fun x4 => if x4 = 0 then (ev_b (ev_pI s1 ((r2 - 1)) 3 1) fun s6 => ev_bd (jm_149 Q ((r2 - 1)) s6) fun x8 s7 => some ((Sum.inl x8 : Int ⊕ String), s7)) else (some (.inr "java/lang/IllegalStateException", ev_tick s1)))
theorem jt_197 (d : Nat) (hd : 6 ≤ d) (Q : Nat) (a0 : Int) (ha0 : ev_rng a0) (S : ev_St) (x : Int ⊕ String) (S' : ev_St) (hJ : jm_197 Q a0 S = some (x, S')) : ev_Ref d 197 [.ref 0, .int (Int32.ofInt a0)] S (ev_eX x) S' (ev_PX x) := by
  obtain ⟨d, rfl⟩ : ∃ e, d = e + 1 := ⟨d - 1, by omega⟩
  refine ev_ref_of (P := ev_PX) (lv := [(0, .ref 0), (1, .int (Int32.ofInt a0))]) (by decide +kernel) (by (try simp only [ev_sum, ev_nv_cat]); first | done | rfl) (by (try simp only [lv_args, ev_nv_cat]); first | done | rfl) ?_ x S' hJ
  unfold jm_197
  refine ev_r_aload_n (pc := 0) (k := 0) (v := .ref 0) trivial (by decide +kernel) (by rfl) ?_
  refine ev_r_iload_n (pc := 1) (k := 1) (v := Int32.ofInt a0) (by decide +kernel) (by rfl) ?_
  refine ev_r_virt (pc := 2) (y := 351) (mi := 202) (na := 1) (k := 0) (as := [.int (Int32.ofInt a0)]) (rest := []) (encc := ev_oR) (Q := (fun r => r = 0 ∨ ev_isOb (r - 1) 9 = true)) (fun x S1 h => jt_202 d (by omega) Q a0 ha0 S x S1 h) (by exact ev_ob_0) (by decide +kernel) (by decide +kernel) (by decide +kernel) (by decide +kernel) rfl (by (try simp only [ev_sum, ev_nv_cat]); first | done | rfl) ?_
  intro r2 s1 hr2
  show ev_w _ _ _ _ _ [ev_nv r2] _ _ _ _
  refine ev_r_astore_n (pc := 5) (k := 2) (ev_isR_nv _) (by decide +kernel) (by decide +kernel) rfl ?_
  refine ev_r_aload_n (pc := 6) (k := 2) (v := ev_nv r2) (ev_isR_nv _) (by decide +kernel) (by exact ev_lk_st1_self) ?_
  refine ev_r_ifnonnull (pc := 7) (r := r2) (o := 14) (t := 21) (by decide +kernel) (by decide +kernel) ?_ ?_
  · intro c3
    refine ev_r_aload_n (pc := 21) (k := 2) (v := ev_nv r2) (ev_isR_nv _) (by decide +kernel) (by exact ev_lk_st1_self) ?_
    refine ev_r_dr (r := r2) (fun v => [v]) c3 ?_
    refine ev_r_getI (pc := 22) (y := 357) (ci := 9) (f := 3) (fin := 0) (by decide +kernel) (by decide +kernel) (by exact (hr2.resolve_left c3)) rfl ?_
    intro x4 hx4
    refine ev_r_if (pc := 25) (q := .eq) (o := 14) (t := 39) (c := x4 = 0) (by decide +kernel) (ev_k_eq hx4 ev_rng0) (by decide +kernel) ?_ ?_
    · intro c5
      refine ev_r_aload_n (pc := 39) (k := 2) (v := ev_nv r2) (ev_isR_nv _) (by decide +kernel) (by exact ev_lk_st1_self) ?_
      refine ev_r_iconst (pc := 40) (k := 1) (by decide +kernel) ?_
      refine ev_r_dr (r := r2) (fun v => [.int (Int32.ofInt 1), v]) c3 ?_
      refine ev_r_putI (pc := 41) (y := 357) (ci := 9) (f := 3) (by decide) (by decide +kernel) (by decide +kernel) (by exact (hr2.resolve_left c3)) rfl (ev_fit_bl (by decide : ev_bl 1)) ?_
      intro s6
      refine ev_r_aload_n (pc := 44) (k := 2) (v := ev_nv r2) (ev_isR_nv _) (by decide +kernel) (by exact ev_lk_st1_self) ?_
      refine ev_r_dr (r := r2) (fun v => [v]) c3 ?_
      refine ev_r_virt (pc := 45) (y := 368) (mi := 149) (na := 0) (k := (r2 - 1)) (as := []) (rest := []) (encc := ev_oI) (Q := ev_rng) (fun x S1 h => jt_149 d (by omega) Q ((r2 - 1)) (hr2.resolve_left c3) s6 x S1 h) (by exact (hr2.resolve_left c3)) (by decide +kernel) (by decide +kernel) (by decide +kernel) (by decide +kernel) rfl (by (try simp only [ev_sum, ev_nv_cat]); first | done | rfl) ?_
      intro x8 s7 hx8
      show ev_w _ _ _ _ _ [.int (Int32.ofInt x8)] _ _ _ _
      exact ev_r_ireturn (pc := 48) (x := (Sum.inl x8 : Int ⊕ String)) (v := Int32.ofInt x8) (ty := .int) hx8 (by decide +kernel) (by decide +kernel) rfl rfl
    · intro c5
      exact ev_r_throw (pc := 28) (x := (Sum.inr "java/lang/IllegalStateException" : Int ⊕ String)) (y := 109) (E := "java/lang/IllegalStateException") trivial (by decide +kernel) (by decide +kernel) (by decide +kernel) (Nat.ble_eq.mpr (by omega)) rfl
  · intro c3
    exact ev_r_throw (pc := 10) (x := (Sum.inr "java/lang/IndexOutOfBoundsException" : Int ⊕ String)) (y := 160) (E := "java/lang/IndexOutOfBoundsException") trivial (by decide +kernel) (by decide +kernel) (by decide +kernel) (Nat.ble_eq.mpr (by omega)) rfl
/-- MendBench.told(I)I -/
def jm_198 (Q : Nat) (a0 : Int) (S : ev_St) : Option ((Int ⊕ String) × ev_St) := ev_bd (jm_202 Q a0 S) fun r2 s1 => if (r2 : Nat) = 0 then (some (.inr "java/lang/IndexOutOfBoundsException", ev_tick s1)) else (ev_bd (jm_149 Q ((r2 - 1)) s1) fun x5 s4 => some ((Sum.inl x5 : Int ⊕ String), s4))
theorem jt_198 (d : Nat) (hd : 6 ≤ d) (Q : Nat) (a0 : Int) (ha0 : ev_rng a0) (S : ev_St) (x : Int ⊕ String) (S' : ev_St) (hJ : jm_198 Q a0 S = some (x, S')) : ev_Ref d 198 [.ref 0, .int (Int32.ofInt a0)] S (ev_eX x) S' (ev_PX x) := by
  obtain ⟨d, rfl⟩ : ∃ e, d = e + 1 := ⟨d - 1, by omega⟩
  refine ev_ref_of (P := ev_PX) (lv := [(0, .ref 0), (1, .int (Int32.ofInt a0))]) (by decide +kernel) (by (try simp only [ev_sum, ev_nv_cat]); first | done | rfl) (by (try simp only [lv_args, ev_nv_cat]); first | done | rfl) ?_ x S' hJ
  unfold jm_198
  refine ev_r_aload_n (pc := 0) (k := 0) (v := .ref 0) trivial (by decide +kernel) (by rfl) ?_
  refine ev_r_iload_n (pc := 1) (k := 1) (v := Int32.ofInt a0) (by decide +kernel) (by rfl) ?_
  refine ev_r_virt (pc := 2) (y := 351) (mi := 202) (na := 1) (k := 0) (as := [.int (Int32.ofInt a0)]) (rest := []) (encc := ev_oR) (Q := (fun r => r = 0 ∨ ev_isOb (r - 1) 9 = true)) (fun x S1 h => jt_202 d (by omega) Q a0 ha0 S x S1 h) (by exact ev_ob_0) (by decide +kernel) (by decide +kernel) (by decide +kernel) (by decide +kernel) rfl (by (try simp only [ev_sum, ev_nv_cat]); first | done | rfl) ?_
  intro r2 s1 hr2
  show ev_w _ _ _ _ _ [ev_nv r2] _ _ _ _
  refine ev_r_astore_n (pc := 5) (k := 2) (ev_isR_nv _) (by decide +kernel) (by decide +kernel) rfl ?_
  refine ev_r_aload_n (pc := 6) (k := 2) (v := ev_nv r2) (ev_isR_nv _) (by decide +kernel) (by exact ev_lk_st1_self) ?_
  refine ev_r_ifnonnull (pc := 7) (r := r2) (o := 14) (t := 21) (by decide +kernel) (by decide +kernel) ?_ ?_
  · intro c3
    refine ev_r_aload_n (pc := 21) (k := 2) (v := ev_nv r2) (ev_isR_nv _) (by decide +kernel) (by exact ev_lk_st1_self) ?_
    refine ev_r_dr (r := r2) (fun v => [v]) c3 ?_
    refine ev_r_virt (pc := 22) (y := 368) (mi := 149) (na := 0) (k := (r2 - 1)) (as := []) (rest := []) (encc := ev_oI) (Q := ev_rng) (fun x S1 h => jt_149 d (by omega) Q ((r2 - 1)) (hr2.resolve_left c3) s1 x S1 h) (by exact (hr2.resolve_left c3)) (by decide +kernel) (by decide +kernel) (by decide +kernel) (by decide +kernel) rfl (by (try simp only [ev_sum, ev_nv_cat]); first | done | rfl) ?_
    intro x5 s4 hx5
    show ev_w _ _ _ _ _ [.int (Int32.ofInt x5)] _ _ _ _
    exact ev_r_ireturn (pc := 25) (x := (Sum.inl x5 : Int ⊕ String)) (v := Int32.ofInt x5) (ty := .int) hx5 (by decide +kernel) (by decide +kernel) rfl rfl
  · intro c3
    exact ev_r_throw (pc := 10) (x := (Sum.inr "java/lang/IndexOutOfBoundsException" : Int ⊕ String)) (y := 160) (E := "java/lang/IndexOutOfBoundsException") trivial (by decide +kernel) (by decide +kernel) (by decide +kernel) (Nat.ble_eq.mpr (by omega)) rfl
/-- MendBenchModel.thrown()I -/
def jm_220 (Q : Nat)  (S : ev_St) : Option ((Int) × ev_St) := ev_b (S.1 621 0) fun x1 => some (x1, S)
theorem jt_220 (d : Nat) (hd : 1 ≤ d) (Q : Nat)   (S : ev_St) (x : Int) (S' : ev_St) (hJ : jm_220 Q  S = some (x, S')) : ev_Ref d 220 [.ref 621] S (ev_eI x) S' (ev_rng x) := by
  obtain ⟨d, rfl⟩ : ∃ e, d = e + 1 := ⟨d - 1, by omega⟩
  refine ev_ref_of (P := ev_rng) (lv := [(0, .ref 621)]) (by decide +kernel) (by (try simp only [ev_sum, ev_nv_cat]); first | done | rfl) (by (try simp only [lv_args, ev_nv_cat]); first | done | rfl) ?_ x S' hJ
  unfold jm_220
  refine ev_r_aload_n (pc := 0) (k := 0) (v := .ref 621) trivial (by decide +kernel) (by rfl) ?_
  refine ev_r_getI (pc := 1) (y := 321) (ci := 13) (f := 0) (fin := 0) (by decide +kernel) (by decide +kernel) (by exact ev_ob_621) rfl ?_
  intro x1 hx1
  exact ev_r_ireturn (pc := 4) (x := x1) (v := Int32.ofInt x1) (ty := .int) hx1 (by decide +kernel) (by decide +kernel) rfl rfl
/-- MendBenchModel.fails(I)I -/
def jm_221 (Q : Nat) (a0 : Int) (S : ev_St) : Option ((Int) × ev_St) := ev_b (ev_pI S 621 0 a0) fun s1 => some (0, s1)
theorem jt_221 (d : Nat) (hd : 1 ≤ d) (Q : Nat) (a0 : Int) (ha0 : ev_rng a0) (S : ev_St) (x : Int) (S' : ev_St) (hJ : jm_221 Q a0 S = some (x, S')) : ev_Ref d 221 [.ref 621, .int (Int32.ofInt a0)] S (ev_eI x) S' (ev_rng x) := by
  obtain ⟨d, rfl⟩ : ∃ e, d = e + 1 := ⟨d - 1, by omega⟩
  refine ev_ref_of (P := ev_rng) (lv := [(0, .ref 621), (1, .int (Int32.ofInt a0))]) (by decide +kernel) (by (try simp only [ev_sum, ev_nv_cat]); first | done | rfl) (by (try simp only [lv_args, ev_nv_cat]); first | done | rfl) ?_ x S' hJ
  unfold jm_221
  refine ev_r_aload_n (pc := 0) (k := 0) (v := .ref 621) trivial (by decide +kernel) (by rfl) ?_
  refine ev_r_iload_n (pc := 1) (k := 1) (v := Int32.ofInt a0) (by decide +kernel) (by rfl) ?_
  refine ev_r_putI (pc := 2) (y := 321) (ci := 13) (f := 0) ha0 (by decide +kernel) (by decide +kernel) (by exact ev_ob_621) rfl rfl ?_
  intro s1
  refine ev_r_iconst (pc := 5) (k := 0) (by decide +kernel) ?_
  exact ev_r_ireturn (pc := 6) (x := 0) (v := Int32.ofInt 0) (ty := .int) (by decide) (by decide +kernel) (by decide +kernel) rfl rfl
/-- MendBenchModel.in(III)Z -/
def jm_222 (Q : Nat) (a0 : Int) (a1 : Int) (a2 : Int) (S : ev_St) : Option ((Int) × ev_St) := if a0 < a1 then (some (0, S)) else (if a2 < a0 then (some (0, S)) else (some (1, S)))
theorem jt_222 (d : Nat) (hd : 1 ≤ d) (Q : Nat) (a0 : Int) (a1 : Int) (a2 : Int) (ha0 : ev_rng a0) (ha1 : ev_rng a1) (ha2 : ev_rng a2) (S : ev_St) (x : Int) (S' : ev_St) (hJ : jm_222 Q a0 a1 a2 S = some (x, S')) : ev_Ref d 222 [.int (Int32.ofInt a0), .int (Int32.ofInt a1), .int (Int32.ofInt a2)] S (ev_eI x) S' (ev_bl x) := by
  obtain ⟨d, rfl⟩ : ∃ e, d = e + 1 := ⟨d - 1, by omega⟩
  refine ev_ref_of (P := ev_bl) (lv := [(0, .int (Int32.ofInt a0)), (1, .int (Int32.ofInt a1)), (2, .int (Int32.ofInt a2))]) (by decide +kernel) (by (try simp only [ev_sum, ev_nv_cat]); first | done | rfl) (by (try simp only [lv_args, ev_nv_cat]); first | done | rfl) ?_ x S' hJ
  unfold jm_222
  refine ev_r_iload_n (pc := 0) (k := 0) (v := Int32.ofInt a0) (by decide +kernel) (by rfl) ?_
  refine ev_r_iload_n (pc := 1) (k := 1) (v := Int32.ofInt a1) (by decide +kernel) (by rfl) ?_
  refine ev_r_icmp (pc := 2) (q := .lt) (o := 12) (t := 14) (c := a0 < a1) (by decide +kernel) (ev_k_lt ha0 ha1) (by decide +kernel) ?_ ?_
  · intro c1
    refine ev_r_iconst (pc := 14) (k := 0) (by decide +kernel) ?_
    exact ev_r_ireturn (pc := 15) (x := 0) (v := Int32.ofInt 0) (ty := .boolean) (by decide : ev_bl 0) (by decide +kernel) (by decide +kernel) (ev_ret_bl (by decide : ev_bl 0)) rfl
  · intro c1
    refine ev_r_iload_n (pc := 5) (k := 0) (v := Int32.ofInt a0) (by decide +kernel) (by rfl) ?_
    refine ev_r_iload_n (pc := 6) (k := 2) (v := Int32.ofInt a2) (by decide +kernel) (by rfl) ?_
    refine ev_r_icmp (pc := 7) (q := .gt) (o := 7) (t := 14) (c := a2 < a0) (by decide +kernel) (ev_k_gt ha0 ha2) (by decide +kernel) ?_ ?_
    · intro c2
      refine ev_r_iconst (pc := 14) (k := 0) (by decide +kernel) ?_
      exact ev_r_ireturn (pc := 15) (x := 0) (v := Int32.ofInt 0) (ty := .boolean) (by decide : ev_bl 0) (by decide +kernel) (by decide +kernel) (ev_ret_bl (by decide : ev_bl 0)) rfl
    · intro c2
      refine ev_r_iconst (pc := 10) (k := 1) (by decide +kernel) ?_
      refine ev_r_goto (pc := 11) (o := 4) (t := 15) (by decide +kernel) (by decide +kernel) ?_
      exact ev_r_ireturn (pc := 15) (x := 1) (v := Int32.ofInt 1) (ty := .boolean) (by decide : ev_bl 1) (by decide +kernel) (by decide +kernel) (ev_ret_bl (by decide : ev_bl 1)) rfl
/-- MendBenchModel.isSign(I)Z -/
def jm_223 (Q : Nat) (a0 : Int) (S : ev_St) : Option ((Int) × ev_St) := if a0 = 10 then (some (1, S)) else (ev_bd (jm_222 Q a0 32 126 S) fun x3 s2 => if x3 = 0 then (some (0, s2)) else (some (1, s2)))
theorem jt_223 (d : Nat) (hd : 2 ≤ d) (Q : Nat) (a0 : Int) (ha0 : ev_rng a0) (S : ev_St) (x : Int) (S' : ev_St) (hJ : jm_223 Q a0 S = some (x, S')) : ev_Ref d 223 [.int (Int32.ofInt a0)] S (ev_eI x) S' (ev_bl x) := by
  obtain ⟨d, rfl⟩ : ∃ e, d = e + 1 := ⟨d - 1, by omega⟩
  refine ev_ref_of (P := ev_bl) (lv := [(0, .int (Int32.ofInt a0))]) (by decide +kernel) (by (try simp only [ev_sum, ev_nv_cat]); first | done | rfl) (by (try simp only [lv_args, ev_nv_cat]); first | done | rfl) ?_ x S' hJ
  unfold jm_223
  refine ev_r_iload_n (pc := 0) (k := 0) (v := Int32.ofInt a0) (by decide +kernel) (by rfl) ?_
  refine ev_r_bipush (pc := 1) (k := 10) (by decide +kernel) (by decide +kernel) ?_
  refine ev_r_icmp (pc := 3) (q := .eq) (o := 14) (t := 17) (c := a0 = 10) (by decide +kernel) (ev_k_eq ha0 (by decide)) (by decide +kernel) ?_ ?_
  · intro c1
    refine ev_r_iconst (pc := 17) (k := 1) (by decide +kernel) ?_
    refine ev_r_goto (pc := 18) (o := 4) (t := 22) (by decide +kernel) (by decide +kernel) ?_
    exact ev_r_ireturn (pc := 22) (x := 1) (v := Int32.ofInt 1) (ty := .boolean) (by decide : ev_bl 1) (by decide +kernel) (by decide +kernel) (ev_ret_bl (by decide : ev_bl 1)) rfl
  · intro c1
    refine ev_r_iload_n (pc := 6) (k := 0) (v := Int32.ofInt a0) (by decide +kernel) (by rfl) ?_
    refine ev_r_bipush (pc := 7) (k := 32) (by decide +kernel) (by decide +kernel) ?_
    refine ev_r_bipush (pc := 9) (k := 126) (by decide +kernel) (by decide +kernel) ?_
    refine ev_r_stat (pc := 11) (y := 325) (kind := 2) (mi := 222) (na := 3) (as := [.int (Int32.ofInt a0), .int (Int32.ofInt 32), .int (Int32.ofInt 126)]) (rest := []) (encc := ev_oI) (Q := ev_bl) (fun x S1 h => jt_222 d (by omega) Q a0 32 126 ha0 (by decide) (by decide) S x S1 h) (Or.inl rfl) (by decide +kernel) (by decide +kernel) (by decide +kernel) (by decide +kernel) rfl (by (try simp only [ev_sum, ev_nv_cat]); first | done | rfl) ?_
    intro x3 s2 hx3
    replace hx3 := ev_bl_rng hx3
    show ev_w _ _ _ _ _ [.int (Int32.ofInt x3)] _ _ _ _
    refine ev_r_if (pc := 14) (q := .eq) (o := 7) (t := 21) (c := x3 = 0) (by decide +kernel) (ev_k_eq hx3 ev_rng0) (by decide +kernel) ?_ ?_
    · intro c4
      refine ev_r_iconst (pc := 21) (k := 0) (by decide +kernel) ?_
      exact ev_r_ireturn (pc := 22) (x := 0) (v := Int32.ofInt 0) (ty := .boolean) (by decide : ev_bl 0) (by decide +kernel) (by decide +kernel) (ev_ret_bl (by decide : ev_bl 0)) rfl
    · intro c4
      refine ev_r_iconst (pc := 17) (k := 1) (by decide +kernel) ?_
      refine ev_r_goto (pc := 18) (o := 4) (t := 22) (by decide +kernel) (by decide +kernel) ?_
      exact ev_r_ireturn (pc := 22) (x := 1) (v := Int32.ofInt 1) (ty := .boolean) (by decide : ev_bl 1) (by decide +kernel) (by decide +kernel) (ev_ret_bl (by decide : ev_bl 1)) rfl
/-- MendBenchModel.isLower(I)Z -/
def jm_224 (Q : Nat) (a0 : Int) (S : ev_St) : Option ((Int) × ev_St) := ev_bd (jm_222 Q a0 97 122 S) fun x2 s1 => ev_if (ev_bl x2) (some (x2, s1))
theorem jt_224 (d : Nat) (hd : 2 ≤ d) (Q : Nat) (a0 : Int) (ha0 : ev_rng a0) (S : ev_St) (x : Int) (S' : ev_St) (hJ : jm_224 Q a0 S = some (x, S')) : ev_Ref d 224 [.int (Int32.ofInt a0)] S (ev_eI x) S' (ev_bl x) := by
  obtain ⟨d, rfl⟩ : ∃ e, d = e + 1 := ⟨d - 1, by omega⟩
  refine ev_ref_of (P := ev_bl) (lv := [(0, .int (Int32.ofInt a0))]) (by decide +kernel) (by (try simp only [ev_sum, ev_nv_cat]); first | done | rfl) (by (try simp only [lv_args, ev_nv_cat]); first | done | rfl) ?_ x S' hJ
  unfold jm_224
  refine ev_r_iload_n (pc := 0) (k := 0) (v := Int32.ofInt a0) (by decide +kernel) (by rfl) ?_
  refine ev_r_bipush (pc := 1) (k := 97) (by decide +kernel) (by decide +kernel) ?_
  refine ev_r_bipush (pc := 3) (k := 122) (by decide +kernel) (by decide +kernel) ?_
  refine ev_r_stat (pc := 5) (y := 325) (kind := 2) (mi := 222) (na := 3) (as := [.int (Int32.ofInt a0), .int (Int32.ofInt 97), .int (Int32.ofInt 122)]) (rest := []) (encc := ev_oI) (Q := ev_bl) (fun x S1 h => jt_222 d (by omega) Q a0 97 122 ha0 (by decide) (by decide) S x S1 h) (Or.inl rfl) (by decide +kernel) (by decide +kernel) (by decide +kernel) (by decide +kernel) rfl (by (try simp only [ev_sum, ev_nv_cat]); first | done | rfl) ?_
  intro x2 s1 hx2
  replace hx2 := ev_bl_rng hx2
  show ev_w _ _ _ _ _ [.int (Int32.ofInt x2)] _ _ _ _
  refine ev_r_chk ?_
  intro c3
  exact ev_r_ireturn (pc := 8) (x := x2) (v := Int32.ofInt x2) (ty := .boolean) c3 (by decide +kernel) (by decide +kernel) (ev_ret_bl c3) rfl
/-- MendBenchModel.isLetter(I)Z -/
def jm_225 (Q : Nat) (a0 : Int) (S : ev_St) : Option ((Int) × ev_St) := ev_bd (jm_224 Q a0 S) fun x2 s1 => if x2 ≠ 0 then (some (1, s1)) else (ev_bd (jm_222 Q a0 65 90 s1) fun x5 s4 => if x5 = 0 then (some (0, s4)) else (some (1, s4)))
theorem jt_225 (d : Nat) (hd : 3 ≤ d) (Q : Nat) (a0 : Int) (ha0 : ev_rng a0) (S : ev_St) (x : Int) (S' : ev_St) (hJ : jm_225 Q a0 S = some (x, S')) : ev_Ref d 225 [.int (Int32.ofInt a0)] S (ev_eI x) S' (ev_bl x) := by
  obtain ⟨d, rfl⟩ : ∃ e, d = e + 1 := ⟨d - 1, by omega⟩
  refine ev_ref_of (P := ev_bl) (lv := [(0, .int (Int32.ofInt a0))]) (by decide +kernel) (by (try simp only [ev_sum, ev_nv_cat]); first | done | rfl) (by (try simp only [lv_args, ev_nv_cat]); first | done | rfl) ?_ x S' hJ
  unfold jm_225
  refine ev_r_iload_n (pc := 0) (k := 0) (v := Int32.ofInt a0) (by decide +kernel) (by rfl) ?_
  refine ev_r_stat (pc := 1) (y := 329) (kind := 2) (mi := 224) (na := 1) (as := [.int (Int32.ofInt a0)]) (rest := []) (encc := ev_oI) (Q := ev_bl) (fun x S1 h => jt_224 d (by omega) Q a0 ha0 S x S1 h) (Or.inl rfl) (by decide +kernel) (by decide +kernel) (by decide +kernel) (by decide +kernel) rfl (by (try simp only [ev_sum, ev_nv_cat]); first | done | rfl) ?_
  intro x2 s1 hx2
  replace hx2 := ev_bl_rng hx2
  show ev_w _ _ _ _ _ [.int (Int32.ofInt x2)] _ _ _ _
  refine ev_r_if (pc := 4) (q := .ne) (o := 14) (t := 18) (c := x2 ≠ 0) (by decide +kernel) (ev_k_ne hx2 ev_rng0) (by decide +kernel) ?_ ?_
  · intro c3
    refine ev_r_iconst (pc := 18) (k := 1) (by decide +kernel) ?_
    refine ev_r_goto (pc := 19) (o := 4) (t := 23) (by decide +kernel) (by decide +kernel) ?_
    exact ev_r_ireturn (pc := 23) (x := 1) (v := Int32.ofInt 1) (ty := .boolean) (by decide : ev_bl 1) (by decide +kernel) (by decide +kernel) (ev_ret_bl (by decide : ev_bl 1)) rfl
  · intro c3
    refine ev_r_iload_n (pc := 7) (k := 0) (v := Int32.ofInt a0) (by decide +kernel) (by rfl) ?_
    refine ev_r_bipush (pc := 8) (k := 65) (by decide +kernel) (by decide +kernel) ?_
    refine ev_r_bipush (pc := 10) (k := 90) (by decide +kernel) (by decide +kernel) ?_
    refine ev_r_stat (pc := 12) (y := 325) (kind := 2) (mi := 222) (na := 3) (as := [.int (Int32.ofInt a0), .int (Int32.ofInt 65), .int (Int32.ofInt 90)]) (rest := []) (encc := ev_oI) (Q := ev_bl) (fun x S1 h => jt_222 d (by omega) Q a0 65 90 ha0 (by decide) (by decide) s1 x S1 h) (Or.inl rfl) (by decide +kernel) (by decide +kernel) (by decide +kernel) (by decide +kernel) rfl (by (try simp only [ev_sum, ev_nv_cat]); first | done | rfl) ?_
    intro x5 s4 hx5
    replace hx5 := ev_bl_rng hx5
    show ev_w _ _ _ _ _ [.int (Int32.ofInt x5)] _ _ _ _
    refine ev_r_if (pc := 15) (q := .eq) (o := 7) (t := 22) (c := x5 = 0) (by decide +kernel) (ev_k_eq hx5 ev_rng0) (by decide +kernel) ?_ ?_
    · intro c6
      refine ev_r_iconst (pc := 22) (k := 0) (by decide +kernel) ?_
      exact ev_r_ireturn (pc := 23) (x := 0) (v := Int32.ofInt 0) (ty := .boolean) (by decide : ev_bl 0) (by decide +kernel) (by decide +kernel) (ev_ret_bl (by decide : ev_bl 0)) rfl
    · intro c6
      refine ev_r_iconst (pc := 18) (k := 1) (by decide +kernel) ?_
      refine ev_r_goto (pc := 19) (o := 4) (t := 23) (by decide +kernel) (by decide +kernel) ?_
      exact ev_r_ireturn (pc := 23) (x := 1) (v := Int32.ofInt 1) (ty := .boolean) (by decide : ev_bl 1) (by decide +kernel) (by decide +kernel) (ev_ret_bl (by decide : ev_bl 1)) rfl
/-- MendBenchModel.isDigit(I)Z -/
def jm_226 (Q : Nat) (a0 : Int) (S : ev_St) : Option ((Int) × ev_St) := ev_bd (jm_222 Q a0 48 57 S) fun x2 s1 => ev_if (ev_bl x2) (some (x2, s1))
theorem jt_226 (d : Nat) (hd : 2 ≤ d) (Q : Nat) (a0 : Int) (ha0 : ev_rng a0) (S : ev_St) (x : Int) (S' : ev_St) (hJ : jm_226 Q a0 S = some (x, S')) : ev_Ref d 226 [.int (Int32.ofInt a0)] S (ev_eI x) S' (ev_bl x) := by
  obtain ⟨d, rfl⟩ : ∃ e, d = e + 1 := ⟨d - 1, by omega⟩
  refine ev_ref_of (P := ev_bl) (lv := [(0, .int (Int32.ofInt a0))]) (by decide +kernel) (by (try simp only [ev_sum, ev_nv_cat]); first | done | rfl) (by (try simp only [lv_args, ev_nv_cat]); first | done | rfl) ?_ x S' hJ
  unfold jm_226
  refine ev_r_iload_n (pc := 0) (k := 0) (v := Int32.ofInt a0) (by decide +kernel) (by rfl) ?_
  refine ev_r_bipush (pc := 1) (k := 48) (by decide +kernel) (by decide +kernel) ?_
  refine ev_r_bipush (pc := 3) (k := 57) (by decide +kernel) (by decide +kernel) ?_
  refine ev_r_stat (pc := 5) (y := 325) (kind := 2) (mi := 222) (na := 3) (as := [.int (Int32.ofInt a0), .int (Int32.ofInt 48), .int (Int32.ofInt 57)]) (rest := []) (encc := ev_oI) (Q := ev_bl) (fun x S1 h => jt_222 d (by omega) Q a0 48 57 ha0 (by decide) (by decide) S x S1 h) (Or.inl rfl) (by decide +kernel) (by decide +kernel) (by decide +kernel) (by decide +kernel) rfl (by (try simp only [ev_sum, ev_nv_cat]); first | done | rfl) ?_
  intro x2 s1 hx2
  replace hx2 := ev_bl_rng hx2
  show ev_w _ _ _ _ _ [.int (Int32.ofInt x2)] _ _ _ _
  refine ev_r_chk ?_
  intro c3
  exact ev_r_ireturn (pc := 8) (x := x2) (v := Int32.ofInt x2) (ty := .boolean) c3 (by decide +kernel) (by decide +kernel) (ev_ret_bl c3) rfl
/-- MendBenchModel.isWord(I)Z -/
def jm_227 (Q : Nat) (a0 : Int) (S : ev_St) : Option ((Int) × ev_St) := ev_bd (jm_225 Q a0 S) fun x2 s1 => if x2 ≠ 0 then (some (1, s1)) else (ev_bd (jm_226 Q a0 s1) fun x5 s4 => if x5 ≠ 0 then (some (1, s4)) else (if a0 ≠ 95 then (some (0, s4)) else (some (1, s4))))
theorem jt_227 (d : Nat) (hd : 4 ≤ d) (Q : Nat) (a0 : Int) (ha0 : ev_rng a0) (S : ev_St) (x : Int) (S' : ev_St) (hJ : jm_227 Q a0 S = some (x, S')) : ev_Ref d 227 [.int (Int32.ofInt a0)] S (ev_eI x) S' (ev_bl x) := by
  obtain ⟨d, rfl⟩ : ∃ e, d = e + 1 := ⟨d - 1, by omega⟩
  refine ev_ref_of (P := ev_bl) (lv := [(0, .int (Int32.ofInt a0))]) (by decide +kernel) (by (try simp only [ev_sum, ev_nv_cat]); first | done | rfl) (by (try simp only [lv_args, ev_nv_cat]); first | done | rfl) ?_ x S' hJ
  unfold jm_227
  refine ev_r_iload_n (pc := 0) (k := 0) (v := Int32.ofInt a0) (by decide +kernel) (by rfl) ?_
  refine ev_r_stat (pc := 1) (y := 333) (kind := 2) (mi := 225) (na := 1) (as := [.int (Int32.ofInt a0)]) (rest := []) (encc := ev_oI) (Q := ev_bl) (fun x S1 h => jt_225 d (by omega) Q a0 ha0 S x S1 h) (Or.inl rfl) (by decide +kernel) (by decide +kernel) (by decide +kernel) (by decide +kernel) rfl (by (try simp only [ev_sum, ev_nv_cat]); first | done | rfl) ?_
  intro x2 s1 hx2
  replace hx2 := ev_bl_rng hx2
  show ev_w _ _ _ _ _ [.int (Int32.ofInt x2)] _ _ _ _
  refine ev_r_if (pc := 4) (q := .ne) (o := 16) (t := 20) (c := x2 ≠ 0) (by decide +kernel) (ev_k_ne hx2 ev_rng0) (by decide +kernel) ?_ ?_
  · intro c3
    refine ev_r_iconst (pc := 20) (k := 1) (by decide +kernel) ?_
    refine ev_r_goto (pc := 21) (o := 4) (t := 25) (by decide +kernel) (by decide +kernel) ?_
    exact ev_r_ireturn (pc := 25) (x := 1) (v := Int32.ofInt 1) (ty := .boolean) (by decide : ev_bl 1) (by decide +kernel) (by decide +kernel) (ev_ret_bl (by decide : ev_bl 1)) rfl
  · intro c3
    refine ev_r_iload_n (pc := 7) (k := 0) (v := Int32.ofInt a0) (by decide +kernel) (by rfl) ?_
    refine ev_r_stat (pc := 8) (y := 336) (kind := 2) (mi := 226) (na := 1) (as := [.int (Int32.ofInt a0)]) (rest := []) (encc := ev_oI) (Q := ev_bl) (fun x S1 h => jt_226 d (by omega) Q a0 ha0 s1 x S1 h) (Or.inl rfl) (by decide +kernel) (by decide +kernel) (by decide +kernel) (by decide +kernel) rfl (by (try simp only [ev_sum, ev_nv_cat]); first | done | rfl) ?_
    intro x5 s4 hx5
    replace hx5 := ev_bl_rng hx5
    show ev_w _ _ _ _ _ [.int (Int32.ofInt x5)] _ _ _ _
    refine ev_r_if (pc := 11) (q := .ne) (o := 9) (t := 20) (c := x5 ≠ 0) (by decide +kernel) (ev_k_ne hx5 ev_rng0) (by decide +kernel) ?_ ?_
    · intro c6
      refine ev_r_iconst (pc := 20) (k := 1) (by decide +kernel) ?_
      refine ev_r_goto (pc := 21) (o := 4) (t := 25) (by decide +kernel) (by decide +kernel) ?_
      exact ev_r_ireturn (pc := 25) (x := 1) (v := Int32.ofInt 1) (ty := .boolean) (by decide : ev_bl 1) (by decide +kernel) (by decide +kernel) (ev_ret_bl (by decide : ev_bl 1)) rfl
    · intro c6
      refine ev_r_iload_n (pc := 14) (k := 0) (v := Int32.ofInt a0) (by decide +kernel) (by rfl) ?_
      refine ev_r_bipush (pc := 15) (k := 95) (by decide +kernel) (by decide +kernel) ?_
      refine ev_r_icmp (pc := 17) (q := .ne) (o := 7) (t := 24) (c := a0 ≠ 95) (by decide +kernel) (ev_k_ne ha0 (by decide)) (by decide +kernel) ?_ ?_
      · intro c7
        refine ev_r_iconst (pc := 24) (k := 0) (by decide +kernel) ?_
        exact ev_r_ireturn (pc := 25) (x := 0) (v := Int32.ofInt 0) (ty := .boolean) (by decide : ev_bl 0) (by decide +kernel) (by decide +kernel) (ev_ret_bl (by decide : ev_bl 0)) rfl
      · intro c7
        refine ev_r_iconst (pc := 20) (k := 1) (by decide +kernel) ?_
        refine ev_r_goto (pc := 21) (o := 4) (t := 25) (by decide +kernel) (by decide +kernel) ?_
        exact ev_r_ireturn (pc := 25) (x := 1) (v := Int32.ofInt 1) (ty := .boolean) (by decide : ev_bl 1) (by decide +kernel) (by decide +kernel) (ev_ret_bl (by decide : ev_bl 1)) rfl
/-- MendBenchModel.isEscaped(I)Z -/
def jm_228 (Q : Nat) (a0 : Int) (S : ev_St) : Option ((Int) × ev_St) := ev_bd (jm_222 Q a0 33 126 S) fun x2 s1 => if x2 = 0 then (some (0, s1)) else (ev_bd (jm_225 Q a0 s1) fun x5 s4 => if x5 ≠ 0 then (some (0, s4)) else (ev_bd (jm_226 Q a0 s4) fun x8 s7 => if x8 ≠ 0 then (some (0, s7)) else (some (1, s7))))
theorem jt_228 (d : Nat) (hd : 4 ≤ d) (Q : Nat) (a0 : Int) (ha0 : ev_rng a0) (S : ev_St) (x : Int) (S' : ev_St) (hJ : jm_228 Q a0 S = some (x, S')) : ev_Ref d 228 [.int (Int32.ofInt a0)] S (ev_eI x) S' (ev_bl x) := by
  obtain ⟨d, rfl⟩ : ∃ e, d = e + 1 := ⟨d - 1, by omega⟩
  refine ev_ref_of (P := ev_bl) (lv := [(0, .int (Int32.ofInt a0))]) (by decide +kernel) (by (try simp only [ev_sum, ev_nv_cat]); first | done | rfl) (by (try simp only [lv_args, ev_nv_cat]); first | done | rfl) ?_ x S' hJ
  unfold jm_228
  refine ev_r_iload_n (pc := 0) (k := 0) (v := Int32.ofInt a0) (by decide +kernel) (by rfl) ?_
  refine ev_r_bipush (pc := 1) (k := 33) (by decide +kernel) (by decide +kernel) ?_
  refine ev_r_bipush (pc := 3) (k := 126) (by decide +kernel) (by decide +kernel) ?_
  refine ev_r_stat (pc := 5) (y := 325) (kind := 2) (mi := 222) (na := 3) (as := [.int (Int32.ofInt a0), .int (Int32.ofInt 33), .int (Int32.ofInt 126)]) (rest := []) (encc := ev_oI) (Q := ev_bl) (fun x S1 h => jt_222 d (by omega) Q a0 33 126 ha0 (by decide) (by decide) S x S1 h) (Or.inl rfl) (by decide +kernel) (by decide +kernel) (by decide +kernel) (by decide +kernel) rfl (by (try simp only [ev_sum, ev_nv_cat]); first | done | rfl) ?_
  intro x2 s1 hx2
  replace hx2 := ev_bl_rng hx2
  show ev_w _ _ _ _ _ [.int (Int32.ofInt x2)] _ _ _ _
  refine ev_r_if (pc := 8) (q := .eq) (o := 21) (t := 29) (c := x2 = 0) (by decide +kernel) (ev_k_eq hx2 ev_rng0) (by decide +kernel) ?_ ?_
  · intro c3
    refine ev_r_iconst (pc := 29) (k := 0) (by decide +kernel) ?_
    exact ev_r_ireturn (pc := 30) (x := 0) (v := Int32.ofInt 0) (ty := .boolean) (by decide : ev_bl 0) (by decide +kernel) (by decide +kernel) (ev_ret_bl (by decide : ev_bl 0)) rfl
  · intro c3
    refine ev_r_iload_n (pc := 11) (k := 0) (v := Int32.ofInt a0) (by decide +kernel) (by rfl) ?_
    refine ev_r_stat (pc := 12) (y := 333) (kind := 2) (mi := 225) (na := 1) (as := [.int (Int32.ofInt a0)]) (rest := []) (encc := ev_oI) (Q := ev_bl) (fun x S1 h => jt_225 d (by omega) Q a0 ha0 s1 x S1 h) (Or.inl rfl) (by decide +kernel) (by decide +kernel) (by decide +kernel) (by decide +kernel) rfl (by (try simp only [ev_sum, ev_nv_cat]); first | done | rfl) ?_
    intro x5 s4 hx5
    replace hx5 := ev_bl_rng hx5
    show ev_w _ _ _ _ _ [.int (Int32.ofInt x5)] _ _ _ _
    refine ev_r_if (pc := 15) (q := .ne) (o := 14) (t := 29) (c := x5 ≠ 0) (by decide +kernel) (ev_k_ne hx5 ev_rng0) (by decide +kernel) ?_ ?_
    · intro c6
      refine ev_r_iconst (pc := 29) (k := 0) (by decide +kernel) ?_
      exact ev_r_ireturn (pc := 30) (x := 0) (v := Int32.ofInt 0) (ty := .boolean) (by decide : ev_bl 0) (by decide +kernel) (by decide +kernel) (ev_ret_bl (by decide : ev_bl 0)) rfl
    · intro c6
      refine ev_r_iload_n (pc := 18) (k := 0) (v := Int32.ofInt a0) (by decide +kernel) (by rfl) ?_
      refine ev_r_stat (pc := 19) (y := 336) (kind := 2) (mi := 226) (na := 1) (as := [.int (Int32.ofInt a0)]) (rest := []) (encc := ev_oI) (Q := ev_bl) (fun x S1 h => jt_226 d (by omega) Q a0 ha0 s4 x S1 h) (Or.inl rfl) (by decide +kernel) (by decide +kernel) (by decide +kernel) (by decide +kernel) rfl (by (try simp only [ev_sum, ev_nv_cat]); first | done | rfl) ?_
      intro x8 s7 hx8
      replace hx8 := ev_bl_rng hx8
      show ev_w _ _ _ _ _ [.int (Int32.ofInt x8)] _ _ _ _
      refine ev_r_if (pc := 22) (q := .ne) (o := 7) (t := 29) (c := x8 ≠ 0) (by decide +kernel) (ev_k_ne hx8 ev_rng0) (by decide +kernel) ?_ ?_
      · intro c9
        refine ev_r_iconst (pc := 29) (k := 0) (by decide +kernel) ?_
        exact ev_r_ireturn (pc := 30) (x := 0) (v := Int32.ofInt 0) (ty := .boolean) (by decide : ev_bl 0) (by decide +kernel) (by decide +kernel) (ev_ret_bl (by decide : ev_bl 0)) rfl
      · intro c9
        refine ev_r_iconst (pc := 25) (k := 1) (by decide +kernel) ?_
        refine ev_r_goto (pc := 26) (o := 4) (t := 30) (by decide +kernel) (by decide +kernel) ?_
        exact ev_r_ireturn (pc := 30) (x := 1) (v := Int32.ofInt 1) (ty := .boolean) (by decide : ev_bl 1) (by decide +kernel) (by decide +kernel) (ev_ret_bl (by decide : ev_bl 1)) rfl
/-- MendBenchModel.other(I)I -/
def jm_229 (Q : Nat) (a0 : Int) (S : ev_St) : Option ((Int) × ev_St) := ev_bd (jm_225 Q a0 S) fun x2 s1 => if x2 = 0 then (some (a0, s1)) else (ev_b (ev_ixor a0 32) fun x4 => some (x4, s1))
theorem jt_229 (d : Nat) (hd : 4 ≤ d) (Q : Nat) (a0 : Int) (ha0 : ev_rng a0) (S : ev_St) (x : Int) (S' : ev_St) (hJ : jm_229 Q a0 S = some (x, S')) : ev_Ref d 229 [.int (Int32.ofInt a0)] S (ev_eI x) S' (ev_rng x) := by
  obtain ⟨d, rfl⟩ : ∃ e, d = e + 1 := ⟨d - 1, by omega⟩
  refine ev_ref_of (P := ev_rng) (lv := [(0, .int (Int32.ofInt a0))]) (by decide +kernel) (by (try simp only [ev_sum, ev_nv_cat]); first | done | rfl) (by (try simp only [lv_args, ev_nv_cat]); first | done | rfl) ?_ x S' hJ
  unfold jm_229
  refine ev_r_iload_n (pc := 0) (k := 0) (v := Int32.ofInt a0) (by decide +kernel) (by rfl) ?_
  refine ev_r_stat (pc := 1) (y := 333) (kind := 2) (mi := 225) (na := 1) (as := [.int (Int32.ofInt a0)]) (rest := []) (encc := ev_oI) (Q := ev_bl) (fun x S1 h => jt_225 d (by omega) Q a0 ha0 S x S1 h) (Or.inl rfl) (by decide +kernel) (by decide +kernel) (by decide +kernel) (by decide +kernel) rfl (by (try simp only [ev_sum, ev_nv_cat]); first | done | rfl) ?_
  intro x2 s1 hx2
  replace hx2 := ev_bl_rng hx2
  show ev_w _ _ _ _ _ [.int (Int32.ofInt x2)] _ _ _ _
  refine ev_r_if (pc := 4) (q := .eq) (o := 10) (t := 14) (c := x2 = 0) (by decide +kernel) (ev_k_eq hx2 ev_rng0) (by decide +kernel) ?_ ?_
  · intro c3
    refine ev_r_iload_n (pc := 14) (k := 0) (v := Int32.ofInt a0) (by decide +kernel) (by rfl) ?_
    exact ev_r_ireturn (pc := 15) (x := a0) (v := Int32.ofInt a0) (ty := .int) ha0 (by decide +kernel) (by decide +kernel) rfl rfl
  · intro c3
    refine ev_r_iload_n (pc := 7) (k := 0) (v := Int32.ofInt a0) (by decide +kernel) (by rfl) ?_
    refine ev_r_bipush (pc := 8) (k := 32) (by decide +kernel) (by decide +kernel) ?_
    refine ev_r_ixor (pc := 10) (by decide +kernel) ?_
    intro x4 hx4
    refine ev_r_goto (pc := 11) (o := 4) (t := 15) (by decide +kernel) (by decide +kernel) ?_
    exact ev_r_ireturn (pc := 15) (x := x4) (v := Int32.ofInt x4) (ty := .int) hx4 (by decide +kernel) (by decide +kernel) rfl rfl
def jb_230_120 (Q : Nat) (a0 : Int) (x2 : Int)  (K120 : Int → ev_St → Option ((Int) × ev_St)) (x23 : Int) (s29 : ev_St) : Option ((Int) × ev_St) := if x2 ≤ x23 then (ev_b (s29.1 621 1) fun x31 => some (x31, s29)) else (ev_b (s29.1 621 1) fun x32 => ev_ck (8 * x23) fun x33 => ev_b (ev_iushr a0 x33) fun x34 => ev_b (ev_iand x34 255) fun x35 => ev_if ((0 : Int) ≤ x32 ∧ x32 < (ev_aln 622 : Int)) (ev_b (ev_pI s29 622 (Int.toNat x32) x35) fun s36 => ev_b (s36.1 621 1) fun x37 => ev_ck (x37 + 1) fun x38 => ev_b (ev_pI s36 621 1 x38) fun s39 => ev_ck (x23 + 1) fun x40 => K120 x40 s39))
def jl_230_120 (Q : Nat) (a0 : Int) (x2 : Int)  : Nat → Int → ev_St → Option ((Int) × ev_St)
  | 0 => fun _ _ => none
  | q + 1 => jb_230_120 Q a0 x2  (jl_230_120 Q a0 x2  q)
theorem jbt_230_120 (d : Nat) (hd : 3 ≤ d + 1) (Q : Nat) (a0 : Int) (x2 : Int) (ha0 : ev_rng a0) (hx2 : ev_rng x2)   (K120 : Int → ev_St → Option ((Int) × ev_St)) (hK120 : ∀ (x23 : Int) (hx23 : ev_rng x23), ∀ (s29 : ev_St) (w24 : List (Nat × Value)), ev_lk w24 0 = some (.ref 621) → ev_lk w24 1 = some (.int (Int32.ofInt a0)) → ev_lk w24 2 = some (.int (Int32.ofInt x2)) → ev_lk w24 4 = some (.int (Int32.ofInt x23)) → ev_w none (ev_Mof 230) d 120 w24 [] s29 (K120 x23 s29) ev_eI ev_rng) : ∀ (x23 : Int) (hx23 : ev_rng x23), ∀ (s29 : ev_St) (w24 : List (Nat × Value)), ev_lk w24 0 = some (.ref 621) → ev_lk w24 1 = some (.int (Int32.ofInt a0)) → ev_lk w24 2 = some (.int (Int32.ofInt x2)) → ev_lk w24 4 = some (.int (Int32.ofInt x23)) → ev_w none (ev_Mof 230) d 120 w24 [] s29 (jb_230_120 Q a0 x2  K120 x23 s29) ev_eI ev_rng := by
  intro x23 hx23 s29 w24 e25 e26 e27 e28
  unfold jb_230_120
  refine ev_r_iload (pc := 120) (k := 4) (v := Int32.ofInt x23) (by decide +kernel) (by exact e28) ?_
  refine ev_r_iload_n (pc := 122) (k := 2) (v := Int32.ofInt x2) (by decide +kernel) (by exact e27) ?_
  refine ev_r_icmp (pc := 123) (q := .ge) (o := 39) (t := 162) (c := x2 ≤ x23) (by decide +kernel) (ev_k_ge hx23 hx2) (by decide +kernel) ?_ ?_
  · intro c30
    refine ev_r_aload_n (pc := 162) (k := 0) (v := .ref 621) trivial (by decide +kernel) (by exact e25) ?_
    refine ev_r_getI (pc := 163) (y := 346) (ci := 13) (f := 1) (fin := 0) (by decide +kernel) (by decide +kernel) (by exact ev_ob_621) rfl ?_
    intro x31 hx31
    exact ev_r_ireturn (pc := 166) (x := x31) (v := Int32.ofInt x31) (ty := .int) hx31 (by decide +kernel) (by decide +kernel) rfl rfl
  · intro c30
    refine ev_r_aload_n (pc := 126) (k := 0) (v := .ref 621) trivial (by decide +kernel) (by exact e25) ?_
    refine ev_r_getC (pc := 127) (y := 7) (ci := 13) (f := 2) (fin := 1) (k' := 622) (by decide +kernel) (by decide +kernel) (by exact ev_ob_621) rfl rfl ?_
    refine ev_r_aload_n (pc := 130) (k := 0) (v := .ref 621) trivial (by decide +kernel) (by exact e25) ?_
    refine ev_r_getI (pc := 131) (y := 346) (ci := 13) (f := 1) (fin := 0) (by decide +kernel) (by decide +kernel) (by exact ev_ob_621) rfl ?_
    intro x32 hx32
    refine ev_r_iload_n (pc := 134) (k := 1) (v := Int32.ofInt a0) (by decide +kernel) (by exact e26) ?_
    refine ev_r_bipush (pc := 135) (k := 8) (by decide +kernel) (by decide +kernel) ?_
    refine ev_r_iload (pc := 137) (k := 4) (v := Int32.ofInt x23) (by decide +kernel) (by exact e28) ?_
    refine ev_r_imul (pc := 139) (by decide +kernel) ?_
    intro x33 hx33
    refine ev_r_iushr (pc := 140) (by decide +kernel) ?_
    intro x34 hx34
    refine ev_r_sipush (pc := 141) (k := 255) (by decide +kernel) (by decide +kernel) ?_
    refine ev_r_iand (pc := 144) (by decide +kernel) ?_
    intro x35 hx35
    refine ev_r_iast (pc := 145) hx35 hx32 (by decide +kernel) (by exact ev_ab_622) ?_
    intro s36
    refine ev_r_aload_n (pc := 146) (k := 0) (v := .ref 621) trivial (by decide +kernel) (by exact e25) ?_
    refine ev_r_dup (pc := 147) rfl (by decide +kernel) ?_
    refine ev_r_getI (pc := 148) (y := 346) (ci := 13) (f := 1) (fin := 0) (by decide +kernel) (by decide +kernel) (by exact ev_ob_621) rfl ?_
    intro x37 hx37
    refine ev_r_iconst (pc := 151) (k := 1) (by decide +kernel) ?_
    refine ev_r_iadd (pc := 152) (by decide +kernel) ?_
    intro x38 hx38
    refine ev_r_putI (pc := 153) (y := 346) (ci := 13) (f := 1) hx38 (by decide +kernel) (by decide +kernel) (by exact ev_ob_621) rfl rfl ?_
    intro s39
    refine ev_r_iinc (pc := 156) (k := 4) (c := 1) (x := x23) (by decide +kernel) (by decide +kernel) (by exact e28) (fun _ => rfl) ?_
    intro x40 hx40
    refine ev_r_goto (pc := 159) (o := (-39)) (t := 120) (by decide +kernel) (by decide +kernel) ?_
    exact hK120 x40 hx40 s39 _ (by exact (ev_l1 e25 (by decide) (by decide))) (by exact (ev_l1 e26 (by decide) (by decide))) (by exact (ev_l1 e27 (by decide) (by decide))) (by exact ev_lk_st1_self)
theorem jlt_230_120 (d : Nat) (hd : 3 ≤ d + 1) (Q : Nat) (a0 : Int) (x2 : Int) (ha0 : ev_rng a0) (hx2 : ev_rng x2)   : ∀ q : Nat, ∀ (x23 : Int) (hx23 : ev_rng x23), ∀ (s29 : ev_St) (w24 : List (Nat × Value)), ev_lk w24 0 = some (.ref 621) → ev_lk w24 1 = some (.int (Int32.ofInt a0)) → ev_lk w24 2 = some (.int (Int32.ofInt x2)) → ev_lk w24 4 = some (.int (Int32.ofInt x23)) → ev_w none (ev_Mof 230) d 120 w24 [] s29 (jl_230_120 Q a0 x2  q x23 s29) ev_eI ev_rng := by
  intro q
  induction q with
  | zero =>
    intro x23 hx23 s29 w24 e25 e26 e27 e28
    exact ev_w_none
  | succ q ih => exact jbt_230_120 d hd Q a0 x2 ha0 hx2   _ ih
def jb_230_12 (Q : Nat) (a0 : Int)  (K12 : Int → Int → Int → ev_St → Option ((Int) × ev_St)) (x2 : Int) (x3 : Int) (x4 : Int) (s11 : ev_St) : Option ((Int) × ev_St) := if 4 ≤ x4 then (ev_jn (fun  (s15 : ev_St) => ev_bd (jm_221 Q 1 s15) fun x17 s16 => some (x17, s16)) fun K94 => if x3 = 0 then (K94  s11) else (if x2 ≠ 0 then (ev_b (s11.1 621 1) fun x20 => ev_ck (x20 + x2) fun x21 => if x21 ≤ 120 then (jl_230_120 Q a0 x2  Q 0 s11) else (ev_bd (jm_221 Q 2 s11) fun x42 s41 => some (x42, s41))) else (K94  s11))) else (ev_ck (8 * x4) fun x43 => ev_b (ev_iushr a0 x43) fun x44 => ev_b (ev_iand x44 255) fun x45 => ev_jn (fun (x46 : Int) (x47 : Int) (s54 : ev_St) => ev_jn (fun (x55 : Int) (x57 : Int) (x56 : Int) (s63 : ev_St) => ev_ck (x56 + x57) fun x64 => ev_ck (x4 + 1) fun x65 => K12 x64 x55 x65 s63) fun K78 => if x46 ≠ 0 then (K78 x47 1 x2 s54) else (K78 x47 0 x2 s54)) fun K66 => ev_jn (fun (x67 : Int) (s74 : ev_St) => K66 x67 0 s74) fun K65 => if x3 = 0 then (K65 x45 s11) else (ev_jn (fun  (s82 : ev_St) => K66 x45 1 s82) fun K61 => if x45 ≠ 0 then (ev_bd (jm_223 Q x45 s11) fun x85 s84 => if x85 = 0 then (K65 x45 s84) else (K61  s84)) else (ev_ck (8 * x4) fun x87 => ev_b (ev_iushr a0 x87) fun x88 => if x88 ≠ 0 then (K65 x45 s11) else (K61  s11))))
def jl_230_12 (Q : Nat) (a0 : Int)  : Nat → Int → Int → Int → ev_St → Option ((Int) × ev_St)
  | 0 => fun _ _ _ _ => none
  | q + 1 => jb_230_12 Q a0  (jl_230_12 Q a0  q)
theorem jbt_230_12 (d : Nat) (hd : 3 ≤ d + 1) (Q : Nat) (a0 : Int) (ha0 : ev_rng a0)   (K12 : Int → Int → Int → ev_St → Option ((Int) × ev_St)) (hK12 : ∀ (x2 : Int) (hx2 : ev_rng x2), ∀ (x3 : Int) (hx3 : ev_rng x3), ∀ (x4 : Int) (hx4 : ev_rng x4), ∀ (s11 : ev_St) (w5 : List (Nat × Value)), ev_lk w5 0 = some (.ref 621) → ev_lk w5 1 = some (.int (Int32.ofInt a0)) → ev_lk w5 2 = some (.int (Int32.ofInt x2)) → ev_lk w5 3 = some (.int (Int32.ofInt x3)) → ev_lk w5 4 = some (.int (Int32.ofInt x4)) → ev_w none (ev_Mof 230) d 12 w5 [] s11 (K12 x2 x3 x4 s11) ev_eI ev_rng) : ∀ (x2 : Int) (hx2 : ev_rng x2), ∀ (x3 : Int) (hx3 : ev_rng x3), ∀ (x4 : Int) (hx4 : ev_rng x4), ∀ (s11 : ev_St) (w5 : List (Nat × Value)), ev_lk w5 0 = some (.ref 621) → ev_lk w5 1 = some (.int (Int32.ofInt a0)) → ev_lk w5 2 = some (.int (Int32.ofInt x2)) → ev_lk w5 3 = some (.int (Int32.ofInt x3)) → ev_lk w5 4 = some (.int (Int32.ofInt x4)) → ev_w none (ev_Mof 230) d 12 w5 [] s11 (jb_230_12 Q a0  K12 x2 x3 x4 s11) ev_eI ev_rng := by
  intro x2 hx2 x3 hx3 x4 hx4 s11 w5 e6 e7 e8 e9 e10
  unfold jb_230_12
  refine ev_r_iload (pc := 12) (k := 4) (v := Int32.ofInt x4) (by decide +kernel) (by exact e10) ?_
  refine ev_r_iconst (pc := 14) (k := 4) (by decide +kernel) ?_
  refine ev_r_icmp (pc := 15) (q := .ge) (o := 71) (t := 86) (c := 4 ≤ x4) (by decide +kernel) (ev_k_ge hx4 (by decide)) (by decide +kernel) ?_ ?_
  · intro c12
    refine ev_r_iload_n (pc := 86) (k := 3) (v := Int32.ofInt x3) (by decide +kernel) (by exact e9) ?_
    refine ev_r_jn (Q := fun K => ∀ (s15 : ev_St) (w13 : List (Nat × Value)), ev_lk w13 0 = some (.ref 621) → ev_w none (ev_Mof 230) d 94 w13 [] s15 (K  s15) ev_eI ev_rng) ?_ ?_
    · intro  s15 w13 e14
      refine ev_r_aload_n (pc := 94) (k := 0) (v := .ref 621) trivial (by decide +kernel) (by exact e14) ?_
      refine ev_r_iconst (pc := 95) (k := 1) (by decide +kernel) ?_
      refine ev_r_virt (pc := 96) (y := 342) (mi := 221) (na := 1) (k := 621) (as := [.int (Int32.ofInt 1)]) (rest := []) (encc := ev_oI) (Q := ev_rng) (fun x S1 h => jt_221 d (by omega) Q 1 (by decide) s15 x S1 h) (by exact ev_ob_621) (by decide +kernel) (by decide +kernel) (by decide +kernel) (by decide +kernel) rfl (by (try simp only [ev_sum, ev_nv_cat]); first | done | rfl) ?_
      intro x17 s16 hx17
      show ev_w _ _ _ _ _ [.int (Int32.ofInt x17)] _ _ _ _
      exact ev_r_ireturn (pc := 99) (x := x17) (v := Int32.ofInt x17) (ty := .int) hx17 (by decide +kernel) (by decide +kernel) rfl rfl
    · intro K94 hK94
      refine ev_r_if (pc := 87) (q := .eq) (o := 7) (t := 94) (c := x3 = 0) (by decide +kernel) (ev_k_eq hx3 ev_rng0) (by decide +kernel) ?_ ?_
      · intro c18
        exact hK94  s11 _ (by exact e6)
      · intro c18
        refine ev_r_iload_n (pc := 90) (k := 2) (v := Int32.ofInt x2) (by decide +kernel) (by exact e8) ?_
        refine ev_r_if (pc := 91) (q := .ne) (o := 9) (t := 100) (c := x2 ≠ 0) (by decide +kernel) (ev_k_ne hx2 ev_rng0) (by decide +kernel) ?_ ?_
        · intro c19
          refine ev_r_aload_n (pc := 100) (k := 0) (v := .ref 621) trivial (by decide +kernel) (by exact e6) ?_
          refine ev_r_getI (pc := 101) (y := 346) (ci := 13) (f := 1) (fin := 0) (by decide +kernel) (by decide +kernel) (by exact ev_ob_621) rfl ?_
          intro x20 hx20
          refine ev_r_iload_n (pc := 104) (k := 2) (v := Int32.ofInt x2) (by decide +kernel) (by exact e8) ?_
          refine ev_r_iadd (pc := 105) (by decide +kernel) ?_
          intro x21 hx21
          refine ev_r_bipush (pc := 106) (k := 120) (by decide +kernel) (by decide +kernel) ?_
          refine ev_r_icmp (pc := 108) (q := .le) (o := 9) (t := 117) (c := x21 ≤ 120) (by decide +kernel) (ev_k_le hx21 (by decide)) (by decide +kernel) ?_ ?_
          · intro c22
            refine ev_r_iconst (pc := 117) (k := 0) (by decide +kernel) ?_
            refine ev_r_istore (pc := 118) (k := 4) (by decide +kernel) (by decide +kernel) rfl ?_
            exact jlt_230_120 d hd Q a0 x2 ha0 hx2   Q 0 (by decide) s11 _ (by exact (ev_l1 e6 (by decide) (by decide))) (by exact (ev_l1 e7 (by decide) (by decide))) (by exact (ev_l1 e8 (by decide) (by decide))) (by exact ev_lk_st1_self)
          · intro c22
            refine ev_r_aload_n (pc := 111) (k := 0) (v := .ref 621) trivial (by decide +kernel) (by exact e6) ?_
            refine ev_r_iconst (pc := 112) (k := 2) (by decide +kernel) ?_
            refine ev_r_virt (pc := 113) (y := 342) (mi := 221) (na := 1) (k := 621) (as := [.int (Int32.ofInt 2)]) (rest := []) (encc := ev_oI) (Q := ev_rng) (fun x S1 h => jt_221 d (by omega) Q 2 (by decide) s11 x S1 h) (by exact ev_ob_621) (by decide +kernel) (by decide +kernel) (by decide +kernel) (by decide +kernel) rfl (by (try simp only [ev_sum, ev_nv_cat]); first | done | rfl) ?_
            intro x42 s41 hx42
            show ev_w _ _ _ _ _ [.int (Int32.ofInt x42)] _ _ _ _
            exact ev_r_ireturn (pc := 116) (x := x42) (v := Int32.ofInt x42) (ty := .int) hx42 (by decide +kernel) (by decide +kernel) rfl rfl
        · intro c19
          exact hK94  s11 _ (by exact e6)
  · intro c12
    refine ev_r_iload_n (pc := 18) (k := 1) (v := Int32.ofInt a0) (by decide +kernel) (by exact e7) ?_
    refine ev_r_bipush (pc := 19) (k := 8) (by decide +kernel) (by decide +kernel) ?_
    refine ev_r_iload (pc := 21) (k := 4) (v := Int32.ofInt x4) (by decide +kernel) (by exact e10) ?_
    refine ev_r_imul (pc := 23) (by decide +kernel) ?_
    intro x43 hx43
    refine ev_r_iushr (pc := 24) (by decide +kernel) ?_
    intro x44 hx44
    refine ev_r_sipush (pc := 25) (k := 255) (by decide +kernel) (by decide +kernel) ?_
    refine ev_r_iand (pc := 28) (by decide +kernel) ?_
    intro x45 hx45
    refine ev_r_istore (pc := 29) (k := 5) (by decide +kernel) (by decide +kernel) rfl ?_
    refine ev_r_iload_n (pc := 31) (k := 3) (v := Int32.ofInt x3) (by decide +kernel) (by exact (ev_l1 e9 (by decide) (by decide))) ?_
    refine ev_r_jn (Q := fun K => ∀ (x46 : Int) (hx46 : ev_rng x46), ∀ (x47 : Int) (hx47 : ev_rng x47), ∀ (s54 : ev_St) (w48 : List (Nat × Value)), ev_lk w48 0 = some (.ref 621) → ev_lk w48 1 = some (.int (Int32.ofInt a0)) → ev_lk w48 2 = some (.int (Int32.ofInt x2)) → ev_lk w48 4 = some (.int (Int32.ofInt x4)) → ev_lk w48 5 = some (.int (Int32.ofInt x46)) → ev_w none (ev_Mof 230) d 66 w48 [.int (Int32.ofInt x47)] s54 (K x46 x47 s54) ev_eI ev_rng) ?_ ?_
    · intro x46 hx46 x47 hx47 s54 w48 e49 e50 e51 e52 e53
      refine ev_r_istore_n (pc := 66) (k := 3) (by decide +kernel) (by decide +kernel) rfl ?_
      refine ev_r_iload_n (pc := 67) (k := 2) (v := Int32.ofInt x2) (by decide +kernel) (by exact (ev_lk_st1 e51 (by decide) rfl)) ?_
      refine ev_r_iload (pc := 68) (k := 5) (v := Int32.ofInt x46) (by decide +kernel) (by exact (ev_l1 e53 (by decide) (by decide))) ?_
      refine ev_r_jn (Q := fun K => ∀ (x55 : Int) (hx55 : ev_rng x55), ∀ (x57 : Int) (hx57 : ev_rng x57), ∀ (x56 : Int) (hx56 : ev_rng x56), ∀ (s63 : ev_St) (w58 : List (Nat × Value)), ev_lk w58 0 = some (.ref 621) → ev_lk w58 1 = some (.int (Int32.ofInt a0)) → ev_lk w58 3 = some (.int (Int32.ofInt x55)) → ev_lk w58 4 = some (.int (Int32.ofInt x4)) → ev_w none (ev_Mof 230) d 78 w58 [.int (Int32.ofInt x57), .int (Int32.ofInt x56)] s63 (K x55 x57 x56 s63) ev_eI ev_rng) ?_ ?_
      · intro x55 hx55 x57 hx57 x56 hx56 s63 w58 e59 e60 e61 e62
        refine ev_r_iadd (pc := 78) (by decide +kernel) ?_
        intro x64 hx64
        refine ev_r_istore_n (pc := 79) (k := 2) (by decide +kernel) (by decide +kernel) rfl ?_
        refine ev_r_iinc (pc := 80) (k := 4) (c := 1) (x := x4) (by decide +kernel) (by decide +kernel) (by exact (ev_l1 e62 (by decide) (by decide))) (fun _ => rfl) ?_
        intro x65 hx65
        refine ev_r_goto (pc := 83) (o := (-71)) (t := 12) (by decide +kernel) (by decide +kernel) ?_
        exact hK12 x64 hx64 x55 hx55 x65 hx65 s63 _ (by exact (ev_l1 (ev_l1 e59 (by decide) (by decide)) (by decide) (by decide))) (by exact (ev_l1 (ev_lk_st1 e60 (by decide) rfl) (by decide) (by decide))) (by exact (ev_l1 ev_lk_st1_self (by decide) (by decide))) (by exact (ev_lk_st1 (ev_l1 e61 (by decide) (by decide)) (by decide) rfl)) (by exact ev_lk_st1_self)
      · intro K78 hK78
        refine ev_r_if (pc := 70) (q := .ne) (o := 7) (t := 77) (c := x46 ≠ 0) (by decide +kernel) (ev_k_ne hx46 ev_rng0) (by decide +kernel) ?_ ?_
        · intro c66
          refine ev_r_iconst (pc := 77) (k := 1) (by decide +kernel) ?_
          exact hK78 x47 hx47 1 (by decide) x2 hx2 s54 _ (by exact (ev_l1 e49 (by decide) (by decide))) (by exact (ev_l1 e50 (by decide) (by decide))) (by exact ev_lk_st1_self) (by exact (ev_l1 e52 (by decide) (by decide)))
        · intro c66
          refine ev_r_iconst (pc := 73) (k := 0) (by decide +kernel) ?_
          refine ev_r_goto (pc := 74) (o := 4) (t := 78) (by decide +kernel) (by decide +kernel) ?_
          exact hK78 x47 hx47 0 (by decide) x2 hx2 s54 _ (by exact (ev_l1 e49 (by decide) (by decide))) (by exact (ev_l1 e50 (by decide) (by decide))) (by exact ev_lk_st1_self) (by exact (ev_l1 e52 (by decide) (by decide)))
    · intro K66 hK66
      refine ev_r_jn (Q := fun K => ∀ (x67 : Int) (hx67 : ev_rng x67), ∀ (s74 : ev_St) (w68 : List (Nat × Value)), ev_lk w68 0 = some (.ref 621) → ev_lk w68 1 = some (.int (Int32.ofInt a0)) → ev_lk w68 2 = some (.int (Int32.ofInt x2)) → ev_lk w68 4 = some (.int (Int32.ofInt x4)) → ev_lk w68 5 = some (.int (Int32.ofInt x67)) → ev_w none (ev_Mof 230) d 65 w68 [] s74 (K x67 s74) ev_eI ev_rng) ?_ ?_
      · intro x67 hx67 s74 w68 e69 e70 e71 e72 e73
        refine ev_r_iconst (pc := 65) (k := 0) (by decide +kernel) ?_
        exact hK66 x67 hx67 0 (by decide) s74 _ (by exact e69) (by exact e70) (by exact e71) (by exact e72) (by exact e73)
      · intro K65 hK65
        refine ev_r_if (pc := 32) (q := .eq) (o := 33) (t := 65) (c := x3 = 0) (by decide +kernel) (ev_k_eq hx3 ev_rng0) (by decide +kernel) ?_ ?_
        · intro c75
          exact hK65 x45 hx45 s11 _ (by exact (ev_l1 e6 (by decide) (by decide))) (by exact (ev_l1 e7 (by decide) (by decide))) (by exact (ev_l1 e8 (by decide) (by decide))) (by exact (ev_lk_st1 e10 (by decide) rfl)) (by exact ev_lk_st1_self)
        · intro c75
          refine ev_r_iload (pc := 35) (k := 5) (v := Int32.ofInt x45) (by decide +kernel) (by exact ev_lk_st1_self) ?_
          refine ev_r_jn (Q := fun K => ∀ (s82 : ev_St) (w76 : List (Nat × Value)), ev_lk w76 0 = some (.ref 621) → ev_lk w76 1 = some (.int (Int32.ofInt a0)) → ev_lk w76 2 = some (.int (Int32.ofInt x2)) → ev_lk w76 4 = some (.int (Int32.ofInt x4)) → ev_lk w76 5 = some (.int (Int32.ofInt x45)) → ev_w none (ev_Mof 230) d 61 w76 [] s82 (K  s82) ev_eI ev_rng) ?_ ?_
          · intro  s82 w76 e77 e78 e79 e80 e81
            refine ev_r_iconst (pc := 61) (k := 1) (by decide +kernel) ?_
            refine ev_r_goto (pc := 62) (o := 4) (t := 66) (by decide +kernel) (by decide +kernel) ?_
            exact hK66 x45 hx45 1 (by decide) s82 _ (by exact e77) (by exact e78) (by exact e79) (by exact e80) (by exact e81)
          · intro K61 hK61
            refine ev_r_if (pc := 37) (q := .ne) (o := 16) (t := 53) (c := x45 ≠ 0) (by decide +kernel) (ev_k_ne hx45 ev_rng0) (by decide +kernel) ?_ ?_
            · intro c83
              refine ev_r_iload (pc := 53) (k := 5) (v := Int32.ofInt x45) (by decide +kernel) (by exact ev_lk_st1_self) ?_
              refine ev_r_stat (pc := 55) (y := 339) (kind := 2) (mi := 223) (na := 1) (as := [.int (Int32.ofInt x45)]) (rest := []) (encc := ev_oI) (Q := ev_bl) (fun x S1 h => jt_223 d (by omega) Q x45 hx45 s11 x S1 h) (Or.inl rfl) (by decide +kernel) (by decide +kernel) (by decide +kernel) (by decide +kernel) rfl (by (try simp only [ev_sum, ev_nv_cat]); first | done | rfl) ?_
              intro x85 s84 hx85
              replace hx85 := ev_bl_rng hx85
              show ev_w _ _ _ _ _ [.int (Int32.ofInt x85)] _ _ _ _
              refine ev_r_if (pc := 58) (q := .eq) (o := 7) (t := 65) (c := x85 = 0) (by decide +kernel) (ev_k_eq hx85 ev_rng0) (by decide +kernel) ?_ ?_
              · intro c86
                exact hK65 x45 hx45 s84 _ (by exact (ev_l1 e6 (by decide) (by decide))) (by exact (ev_l1 e7 (by decide) (by decide))) (by exact (ev_l1 e8 (by decide) (by decide))) (by exact (ev_lk_st1 e10 (by decide) rfl)) (by exact ev_lk_st1_self)
              · intro c86
                exact hK61  s84 _ (by exact (ev_l1 e6 (by decide) (by decide))) (by exact (ev_l1 e7 (by decide) (by decide))) (by exact (ev_l1 e8 (by decide) (by decide))) (by exact (ev_lk_st1 e10 (by decide) rfl)) (by exact ev_lk_st1_self)
            · intro c83
              refine ev_r_iload_n (pc := 40) (k := 1) (v := Int32.ofInt a0) (by decide +kernel) (by exact (ev_l1 e7 (by decide) (by decide))) ?_
              refine ev_r_bipush (pc := 41) (k := 8) (by decide +kernel) (by decide +kernel) ?_
              refine ev_r_iload (pc := 43) (k := 4) (v := Int32.ofInt x4) (by decide +kernel) (by exact (ev_lk_st1 e10 (by decide) rfl)) ?_
              refine ev_r_imul (pc := 45) (by decide +kernel) ?_
              intro x87 hx87
              refine ev_r_iushr (pc := 46) (by decide +kernel) ?_
              intro x88 hx88
              refine ev_r_if (pc := 47) (q := .ne) (o := 18) (t := 65) (c := x88 ≠ 0) (by decide +kernel) (ev_k_ne hx88 ev_rng0) (by decide +kernel) ?_ ?_
              · intro c89
                exact hK65 x45 hx45 s11 _ (by exact (ev_l1 e6 (by decide) (by decide))) (by exact (ev_l1 e7 (by decide) (by decide))) (by exact (ev_l1 e8 (by decide) (by decide))) (by exact (ev_lk_st1 e10 (by decide) rfl)) (by exact ev_lk_st1_self)
              · intro c89
                refine ev_r_goto (pc := 50) (o := 11) (t := 61) (by decide +kernel) (by decide +kernel) ?_
                exact hK61  s11 _ (by exact (ev_l1 e6 (by decide) (by decide))) (by exact (ev_l1 e7 (by decide) (by decide))) (by exact (ev_l1 e8 (by decide) (by decide))) (by exact (ev_lk_st1 e10 (by decide) rfl)) (by exact ev_lk_st1_self)
theorem jlt_230_12 (d : Nat) (hd : 3 ≤ d + 1) (Q : Nat) (a0 : Int) (ha0 : ev_rng a0)   : ∀ q : Nat, ∀ (x2 : Int) (hx2 : ev_rng x2), ∀ (x3 : Int) (hx3 : ev_rng x3), ∀ (x4 : Int) (hx4 : ev_rng x4), ∀ (s11 : ev_St) (w5 : List (Nat × Value)), ev_lk w5 0 = some (.ref 621) → ev_lk w5 1 = some (.int (Int32.ofInt a0)) → ev_lk w5 2 = some (.int (Int32.ofInt x2)) → ev_lk w5 3 = some (.int (Int32.ofInt x3)) → ev_lk w5 4 = some (.int (Int32.ofInt x4)) → ev_w none (ev_Mof 230) d 12 w5 [] s11 (jl_230_12 Q a0  q x2 x3 x4 s11) ev_eI ev_rng := by
  intro q
  induction q with
  | zero =>
    intro x2 hx2 x3 hx3 x4 hx4 s11 w5 e6 e7 e8 e9 e10
    exact ev_w_none
  | succ q ih => exact jbt_230_12 d hd Q a0 ha0   _ ih
/-- MendBenchModel.type(I)I -/
def jm_230 (Q : Nat) (a0 : Int) (S : ev_St) : Option ((Int) × ev_St) := ev_b (ev_pI S 621 0 0) fun s1 => jl_230_12 Q a0  Q 0 1 0 s1
theorem jt_230 (d : Nat) (hd : 3 ≤ d) (Q : Nat) (a0 : Int) (ha0 : ev_rng a0) (S : ev_St) (x : Int) (S' : ev_St) (hJ : jm_230 Q a0 S = some (x, S')) : ev_Ref d 230 [.ref 621, .int (Int32.ofInt a0)] S (ev_eI x) S' (ev_rng x) := by
  obtain ⟨d, rfl⟩ : ∃ e, d = e + 1 := ⟨d - 1, by omega⟩
  refine ev_ref_of (P := ev_rng) (lv := [(0, .ref 621), (1, .int (Int32.ofInt a0))]) (by decide +kernel) (by (try simp only [ev_sum, ev_nv_cat]); first | done | rfl) (by (try simp only [lv_args, ev_nv_cat]); first | done | rfl) ?_ x S' hJ
  unfold jm_230
  refine ev_r_aload_n (pc := 0) (k := 0) (v := .ref 621) trivial (by decide +kernel) (by rfl) ?_
  refine ev_r_iconst (pc := 1) (k := 0) (by decide +kernel) ?_
  refine ev_r_putI (pc := 2) (y := 321) (ci := 13) (f := 0) (by decide) (by decide +kernel) (by decide +kernel) (by exact ev_ob_621) rfl rfl ?_
  intro s1
  refine ev_r_iconst (pc := 5) (k := 0) (by decide +kernel) ?_
  refine ev_r_istore_n (pc := 6) (k := 2) (by decide +kernel) (by decide +kernel) rfl ?_
  refine ev_r_iconst (pc := 7) (k := 1) (by decide +kernel) ?_
  refine ev_r_istore_n (pc := 8) (k := 3) (by decide +kernel) (by decide +kernel) rfl ?_
  refine ev_r_iconst (pc := 9) (k := 0) (by decide +kernel) ?_
  refine ev_r_istore (pc := 10) (k := 4) (by decide +kernel) (by decide +kernel) rfl ?_
  exact jlt_230_12 d hd Q a0 ha0   Q 0 (by decide) 1 (by decide) 0 (by decide) s1 _ (by exact (ev_l1 (ev_l1 (ev_l1 (by rfl) (by decide) (by decide)) (by decide) (by decide)) (by decide) (by decide))) (by exact (ev_l1 (ev_l1 (ev_lk_st1 (by rfl) (by decide) rfl) (by decide) (by decide)) (by decide) (by decide))) (by exact (ev_l1 (ev_lk_st1 ev_lk_st1_self (by decide) rfl) (by decide) (by decide))) (by exact (ev_lk_st1 ev_lk_st1_self (by decide) rfl)) (by exact ev_lk_st1_self)
/-- MendBenchModel.clear()I -/
def jm_231 (Q : Nat)  (S : ev_St) : Option ((Int) × ev_St) := ev_b (ev_pI S 621 0 0) fun s1 => ev_b (s1.1 621 1) fun x2 => ev_b (ev_pI s1 621 1 0) fun s3 => some (x2, s3)
theorem jt_231 (d : Nat) (hd : 1 ≤ d) (Q : Nat)   (S : ev_St) (x : Int) (S' : ev_St) (hJ : jm_231 Q  S = some (x, S')) : ev_Ref d 231 [.ref 621] S (ev_eI x) S' (ev_rng x) := by
  obtain ⟨d, rfl⟩ : ∃ e, d = e + 1 := ⟨d - 1, by omega⟩
  refine ev_ref_of (P := ev_rng) (lv := [(0, .ref 621)]) (by decide +kernel) (by (try simp only [ev_sum, ev_nv_cat]); first | done | rfl) (by (try simp only [lv_args, ev_nv_cat]); first | done | rfl) ?_ x S' hJ
  unfold jm_231
  refine ev_r_aload_n (pc := 0) (k := 0) (v := .ref 621) trivial (by decide +kernel) (by rfl) ?_
  refine ev_r_iconst (pc := 1) (k := 0) (by decide +kernel) ?_
  refine ev_r_putI (pc := 2) (y := 321) (ci := 13) (f := 0) (by decide) (by decide +kernel) (by decide +kernel) (by exact ev_ob_621) rfl rfl ?_
  intro s1
  refine ev_r_aload_n (pc := 5) (k := 0) (v := .ref 621) trivial (by decide +kernel) (by rfl) ?_
  refine ev_r_getI (pc := 6) (y := 346) (ci := 13) (f := 1) (fin := 0) (by decide +kernel) (by decide +kernel) (by exact ev_ob_621) rfl ?_
  intro x2 hx2
  refine ev_r_istore_n (pc := 9) (k := 1) (by decide +kernel) (by decide +kernel) rfl ?_
  refine ev_r_aload_n (pc := 10) (k := 0) (v := .ref 621) trivial (by decide +kernel) (by exact (ev_lk_st1 (by rfl) (by decide) rfl)) ?_
  refine ev_r_iconst (pc := 11) (k := 0) (by decide +kernel) ?_
  refine ev_r_putI (pc := 12) (y := 346) (ci := 13) (f := 1) (by decide) (by decide +kernel) (by decide +kernel) (by exact ev_ob_621) rfl rfl ?_
  intro s3
  refine ev_r_iload_n (pc := 15) (k := 1) (v := Int32.ofInt x2) (by decide +kernel) (by exact ev_lk_st1_self) ?_
  exact ev_r_ireturn (pc := 16) (x := x2) (v := Int32.ofInt x2) (ty := .int) hx2 (by decide +kernel) (by decide +kernel) rfl rfl
/-- MendBenchModel.base()I -/
def jm_232 (Q : Nat)  (S : ev_St) : Option ((Int) × ev_St) := some (3840, S)
theorem jt_232 (d : Nat) (hd : 1 ≤ d) (Q : Nat)   (S : ev_St) (x : Int) (S' : ev_St) (hJ : jm_232 Q  S = some (x, S')) : ev_Ref d 232 [.ref 621] S (ev_eI x) S' (ev_rng x) := by
  obtain ⟨d, rfl⟩ : ∃ e, d = e + 1 := ⟨d - 1, by omega⟩
  refine ev_ref_of (P := ev_rng) (lv := [(0, .ref 621)]) (by decide +kernel) (by (try simp only [ev_sum, ev_nv_cat]); first | done | rfl) (by (try simp only [lv_args, ev_nv_cat]); first | done | rfl) ?_ x S' hJ
  unfold jm_232
  refine ev_r_sipush (pc := 0) (k := 3840) (by decide +kernel) (by decide +kernel) ?_
  exact ev_r_ireturn (pc := 3) (x := 3840) (v := Int32.ofInt 3840) (ty := .int) (by decide) (by decide +kernel) (by decide +kernel) rfl rfl
/-- MendBenchModel.peek(I)I -/
def jm_233 (Q : Nat) (a0 : Int) (S : ev_St) : Option ((Int) × ev_St) := ev_b (S.1 621 28) fun x1 => ev_if ((0 : Int) ≤ x1 ∧ x1 < (ev_aln 644 : Int)) (ev_b (S.1 644 (Int.toNat x1)) fun x2 => ev_b (S.1 621 28) fun x3 => ev_if ((0 : Int) ≤ x3 ∧ x3 < (ev_aln 645 : Int)) (ev_b (S.1 645 (Int.toNat x3)) fun x4 => ev_ck (x4 + a0) fun x5 => if x2 ≠ (-1) then (ev_if ((0 : Int) ≤ x2 ∧ x2 < (ev_aln 623 : Int)) (ev_b (S.1 623 (Int.toNat x2)) fun x7 => if x7 ≤ x5 then (some ((-1), S)) else (ev_ck (120 * x2) fun x9 => ev_ck (x9 + x5) fun x10 => ev_if ((0 : Int) ≤ x10 ∧ x10 < (ev_aln 624 : Int)) (ev_b (S.1 624 (Int.toNat x10)) fun x11 => some (x11, S))))) else (ev_b (S.1 621 1) fun x12 => if x12 ≤ x5 then (some ((-1), S)) else (ev_if ((0 : Int) ≤ x5 ∧ x5 < (ev_aln 622 : Int)) (ev_b (S.1 622 (Int.toNat x5)) fun x14 => some (x14, S))))))
theorem jt_233 (d : Nat) (hd : 1 ≤ d) (Q : Nat) (a0 : Int) (ha0 : ev_rng a0) (S : ev_St) (x : Int) (S' : ev_St) (hJ : jm_233 Q a0 S = some (x, S')) : ev_Ref d 233 [.ref 621, .int (Int32.ofInt a0)] S (ev_eI x) S' (ev_rng x) := by
  obtain ⟨d, rfl⟩ : ∃ e, d = e + 1 := ⟨d - 1, by omega⟩
  refine ev_ref_of (P := ev_rng) (lv := [(0, .ref 621), (1, .int (Int32.ofInt a0))]) (by decide +kernel) (by (try simp only [ev_sum, ev_nv_cat]); first | done | rfl) (by (try simp only [lv_args, ev_nv_cat]); first | done | rfl) ?_ x S' hJ
  unfold jm_233
  refine ev_r_aload_n (pc := 0) (k := 0) (v := .ref 621) trivial (by decide +kernel) (by rfl) ?_
  refine ev_r_getC (pc := 1) (y := 77) (ci := 13) (f := 29) (fin := 1) (k' := 644) (by decide +kernel) (by decide +kernel) (by exact ev_ob_621) rfl rfl ?_
  refine ev_r_aload_n (pc := 4) (k := 0) (v := .ref 621) trivial (by decide +kernel) (by rfl) ?_
  refine ev_r_getI (pc := 5) (y := 349) (ci := 13) (f := 28) (fin := 0) (by decide +kernel) (by decide +kernel) (by exact ev_ob_621) rfl ?_
  intro x1 hx1
  refine ev_r_iald (pc := 8) hx1 (by decide +kernel) (by exact ev_ab_644) ?_
  intro x2 hx2
  refine ev_r_istore_n (pc := 9) (k := 2) (by decide +kernel) (by decide +kernel) rfl ?_
  refine ev_r_aload_n (pc := 10) (k := 0) (v := .ref 621) trivial (by decide +kernel) (by exact (ev_l1 (by rfl) (by decide) (by decide))) ?_
  refine ev_r_getC (pc := 11) (y := 80) (ci := 13) (f := 30) (fin := 1) (k' := 645) (by decide +kernel) (by decide +kernel) (by exact ev_ob_621) rfl rfl ?_
  refine ev_r_aload_n (pc := 14) (k := 0) (v := .ref 621) trivial (by decide +kernel) (by exact (ev_l1 (by rfl) (by decide) (by decide))) ?_
  refine ev_r_getI (pc := 15) (y := 349) (ci := 13) (f := 28) (fin := 0) (by decide +kernel) (by decide +kernel) (by exact ev_ob_621) rfl ?_
  intro x3 hx3
  refine ev_r_iald (pc := 18) hx3 (by decide +kernel) (by exact ev_ab_645) ?_
  intro x4 hx4
  refine ev_r_iload_n (pc := 19) (k := 1) (v := Int32.ofInt a0) (by decide +kernel) (by exact (ev_lk_st1 (by rfl) (by decide) rfl)) ?_
  refine ev_r_iadd (pc := 20) (by decide +kernel) ?_
  intro x5 hx5
  refine ev_r_istore_n (pc := 21) (k := 3) (by decide +kernel) (by decide +kernel) rfl ?_
  refine ev_r_iload_n (pc := 22) (k := 2) (v := Int32.ofInt x2) (by decide +kernel) (by exact (ev_lk_st1 ev_lk_st1_self (by decide) rfl)) ?_
  refine ev_r_iconst (pc := 23) (k := -1) (by decide +kernel) ?_
  refine ev_r_icmp (pc := 24) (q := .ne) (o := 22) (t := 46) (c := x2 ≠ (-1)) (by decide +kernel) (ev_k_ne hx2 (by decide)) (by decide +kernel) ?_ ?_
  · intro c6
    refine ev_r_iload_n (pc := 46) (k := 3) (v := Int32.ofInt x5) (by decide +kernel) (by exact ev_lk_st1_self) ?_
    refine ev_r_aload_n (pc := 47) (k := 0) (v := .ref 621) trivial (by decide +kernel) (by exact (ev_l1 (ev_l1 (by rfl) (by decide) (by decide)) (by decide) (by decide))) ?_
    refine ev_r_getC (pc := 48) (y := 13) (ci := 13) (f := 3) (fin := 1) (k' := 623) (by decide +kernel) (by decide +kernel) (by exact ev_ob_621) rfl rfl ?_
    refine ev_r_iload_n (pc := 51) (k := 2) (v := Int32.ofInt x2) (by decide +kernel) (by exact (ev_lk_st1 ev_lk_st1_self (by decide) rfl)) ?_
    refine ev_r_iald (pc := 52) hx2 (by decide +kernel) (by exact ev_ab_623) ?_
    intro x7 hx7
    refine ev_r_icmp (pc := 53) (q := .ge) (o := 17) (t := 70) (c := x7 ≤ x5) (by decide +kernel) (ev_k_ge hx5 hx7) (by decide +kernel) ?_ ?_
    · intro c8
      refine ev_r_iconst (pc := 70) (k := -1) (by decide +kernel) ?_
      exact ev_r_ireturn (pc := 71) (x := (-1)) (v := Int32.ofInt ((-1))) (ty := .int) (by decide) (by decide +kernel) (by decide +kernel) rfl rfl
    · intro c8
      refine ev_r_aload_n (pc := 56) (k := 0) (v := .ref 621) trivial (by decide +kernel) (by exact (ev_l1 (ev_l1 (by rfl) (by decide) (by decide)) (by decide) (by decide))) ?_
      refine ev_r_getC (pc := 57) (y := 16) (ci := 13) (f := 4) (fin := 1) (k' := 624) (by decide +kernel) (by decide +kernel) (by exact ev_ob_621) rfl rfl ?_
      refine ev_r_bipush (pc := 60) (k := 120) (by decide +kernel) (by decide +kernel) ?_
      refine ev_r_iload_n (pc := 62) (k := 2) (v := Int32.ofInt x2) (by decide +kernel) (by exact (ev_lk_st1 ev_lk_st1_self (by decide) rfl)) ?_
      refine ev_r_imul (pc := 63) (by decide +kernel) ?_
      intro x9 hx9
      refine ev_r_iload_n (pc := 64) (k := 3) (v := Int32.ofInt x5) (by decide +kernel) (by exact ev_lk_st1_self) ?_
      refine ev_r_iadd (pc := 65) (by decide +kernel) ?_
      intro x10 hx10
      refine ev_r_iald (pc := 66) hx10 (by decide +kernel) (by exact ev_ab_624) ?_
      intro x11 hx11
      refine ev_r_goto (pc := 67) (o := 4) (t := 71) (by decide +kernel) (by decide +kernel) ?_
      exact ev_r_ireturn (pc := 71) (x := x11) (v := Int32.ofInt x11) (ty := .int) hx11 (by decide +kernel) (by decide +kernel) rfl rfl
  · intro c6
    refine ev_r_iload_n (pc := 27) (k := 3) (v := Int32.ofInt x5) (by decide +kernel) (by exact ev_lk_st1_self) ?_
    refine ev_r_aload_n (pc := 28) (k := 0) (v := .ref 621) trivial (by decide +kernel) (by exact (ev_l1 (ev_l1 (by rfl) (by decide) (by decide)) (by decide) (by decide))) ?_
    refine ev_r_getI (pc := 29) (y := 346) (ci := 13) (f := 1) (fin := 0) (by decide +kernel) (by decide +kernel) (by exact ev_ob_621) rfl ?_
    intro x12 hx12
    refine ev_r_icmp (pc := 32) (q := .ge) (o := 12) (t := 44) (c := x12 ≤ x5) (by decide +kernel) (ev_k_ge hx5 hx12) (by decide +kernel) ?_ ?_
    · intro c13
      refine ev_r_iconst (pc := 44) (k := -1) (by decide +kernel) ?_
      exact ev_r_ireturn (pc := 45) (x := (-1)) (v := Int32.ofInt ((-1))) (ty := .int) (by decide) (by decide +kernel) (by decide +kernel) rfl rfl
    · intro c13
      refine ev_r_aload_n (pc := 35) (k := 0) (v := .ref 621) trivial (by decide +kernel) (by exact (ev_l1 (ev_l1 (by rfl) (by decide) (by decide)) (by decide) (by decide))) ?_
      refine ev_r_getC (pc := 36) (y := 7) (ci := 13) (f := 2) (fin := 1) (k' := 622) (by decide +kernel) (by decide +kernel) (by exact ev_ob_621) rfl rfl ?_
      refine ev_r_iload_n (pc := 39) (k := 3) (v := Int32.ofInt x5) (by decide +kernel) (by exact ev_lk_st1_self) ?_
      refine ev_r_iald (pc := 40) hx5 (by decide +kernel) (by exact ev_ab_622) ?_
      intro x14 hx14
      refine ev_r_goto (pc := 41) (o := 4) (t := 45) (by decide +kernel) (by decide +kernel) ?_
      exact ev_r_ireturn (pc := 45) (x := x14) (v := Int32.ofInt x14) (ty := .int) hx14 (by decide +kernel) (by decide +kernel) rfl rfl
/-- MendBenchModel.goes(I)V -/
def jm_234 (Q : Nat) (a0 : Int) (S : ev_St) : Option ((Unit) × ev_St) := ev_b (S.1 621 28) fun x1 => ev_if ((0 : Int) ≤ x1 ∧ x1 < (ev_aln 645 : Int)) (ev_b (S.1 645 (Int.toNat x1)) fun x2 => ev_ck (x2 + a0) fun x3 => ev_if ((0 : Int) ≤ x1 ∧ x1 < (ev_aln 645 : Int)) (ev_b (ev_pI S 645 (Int.toNat x1) x3) fun s4 => some ((), s4)))
theorem jt_234 (d : Nat) (hd : 1 ≤ d) (Q : Nat) (a0 : Int) (ha0 : ev_rng a0) (S : ev_St) (x : Unit) (S' : ev_St) (hJ : jm_234 Q a0 S = some (x, S')) : ev_Ref d 234 [.ref 621, .int (Int32.ofInt a0)] S (ev_eU x) S' (ev_PU x) := by
  obtain ⟨d, rfl⟩ : ∃ e, d = e + 1 := ⟨d - 1, by omega⟩
  refine ev_ref_of (P := ev_PU) (lv := [(0, .ref 621), (1, .int (Int32.ofInt a0))]) (by decide +kernel) (by (try simp only [ev_sum, ev_nv_cat]); first | done | rfl) (by (try simp only [lv_args, ev_nv_cat]); first | done | rfl) ?_ x S' hJ
  unfold jm_234
  refine ev_r_aload_n (pc := 0) (k := 0) (v := .ref 621) trivial (by decide +kernel) (by rfl) ?_
  refine ev_r_getC (pc := 1) (y := 80) (ci := 13) (f := 30) (fin := 1) (k' := 645) (by decide +kernel) (by decide +kernel) (by exact ev_ob_621) rfl rfl ?_
  refine ev_r_aload_n (pc := 4) (k := 0) (v := .ref 621) trivial (by decide +kernel) (by rfl) ?_
  refine ev_r_getI (pc := 5) (y := 349) (ci := 13) (f := 28) (fin := 0) (by decide +kernel) (by decide +kernel) (by exact ev_ob_621) rfl ?_
  intro x1 hx1
  refine ev_r_dup2 (pc := 8) rfl rfl (by decide +kernel) ?_
  refine ev_r_iald (pc := 9) hx1 (by decide +kernel) (by exact ev_ab_645) ?_
  intro x2 hx2
  refine ev_r_iload_n (pc := 10) (k := 1) (v := Int32.ofInt a0) (by decide +kernel) (by rfl) ?_
  refine ev_r_iadd (pc := 11) (by decide +kernel) ?_
  intro x3 hx3
  refine ev_r_iast (pc := 12) hx3 hx1 (by decide +kernel) (by exact ev_ab_645) ?_
  intro s4
  exact ev_r_return (pc := 13) (x := ()) trivial (by decide +kernel) (by decide +kernel) rfl
/-- MendBenchModel.makes(I)I -/
def jm_235 (Q : Nat) (a0 : Int) (S : ev_St) : Option ((Int) × ev_St) := ev_if ((0 : Int) ≤ 12 ∧ 12 < (ev_aln 635 : Int)) (ev_b (S.1 635 (Int.toNat 12)) fun x1 => if x1 ≠ 320 then (ev_bd (jm_232 Q  S) fun x4 s3 => ev_ck (x4 + x1) fun x5 => ev_if ((0 : Int) ≤ x5 ∧ x5 < (ev_aln 625 : Int)) (ev_b (ev_pI s3 625 (Int.toNat x5) a0) fun s6 => ev_if ((0 : Int) ≤ x5 ∧ x5 < (ev_aln 626 : Int)) (ev_b (ev_pI s6 626 (Int.toNat x5) ((-1))) fun s7 => ev_if ((0 : Int) ≤ x5 ∧ x5 < (ev_aln 627 : Int)) (ev_b (ev_pI s7 627 (Int.toNat x5) ((-1))) fun s8 => ev_if ((0 : Int) ≤ x5 ∧ x5 < (ev_aln 628 : Int)) (ev_b (ev_pI s8 628 (Int.toNat x5) 0) fun s9 => ev_if ((0 : Int) ≤ x5 ∧ x5 < (ev_aln 629 : Int)) (ev_b (ev_pI s9 629 (Int.toNat x5) 0) fun s10 => ev_if ((0 : Int) ≤ x5 ∧ x5 < (ev_aln 630 : Int)) (ev_b (ev_pI s10 630 (Int.toNat x5) ((-1))) fun s11 => ev_if ((0 : Int) ≤ x5 ∧ x5 < (ev_aln 631 : Int)) (ev_b (ev_pI s11 631 (Int.toNat x5) 1) fun s12 => ev_if ((0 : Int) ≤ x5 ∧ x5 < (ev_aln 632 : Int)) (ev_b (ev_pI s12 632 (Int.toNat x5) 1) fun s13 => ev_if ((0 : Int) ≤ x5 ∧ x5 < (ev_aln 633 : Int)) (ev_b (ev_pL s13 633 (Int.toNat x5) ((Int64.ofNat ((0 : Fin 2) : Nat)))) fun s14 => ev_if ((0 : Int) ≤ x5 ∧ x5 < (ev_aln 634 : Int)) (ev_b (ev_pL s14 634 (Int.toNat x5) ((Int64.ofNat ((0 : Fin 2) : Nat)))) fun s15 => ev_if ((0 : Int) ≤ 12 ∧ 12 < (ev_aln 635 : Int)) (ev_b (s15.1 635 (Int.toNat 12)) fun x16 => ev_ck (x16 + 1) fun x17 => ev_if ((0 : Int) ≤ 12 ∧ 12 < (ev_aln 635 : Int)) (ev_b (ev_pI s15 635 (Int.toNat 12) x17) fun s18 => some (x1, s18)))))))))))))) else (ev_b (ev_pI S 621 25 1) fun s19 => ev_ck (x1 - 1) fun x20 => some (x20, s19)))
theorem jt_235 (d : Nat) (hd : 2 ≤ d) (Q : Nat) (a0 : Int) (ha0 : ev_rng a0) (S : ev_St) (x : Int) (S' : ev_St) (hJ : jm_235 Q a0 S = some (x, S')) : ev_Ref d 235 [.ref 621, .int (Int32.ofInt a0)] S (ev_eI x) S' (ev_rng x) := by
  obtain ⟨d, rfl⟩ : ∃ e, d = e + 1 := ⟨d - 1, by omega⟩
  refine ev_ref_of (P := ev_rng) (lv := [(0, .ref 621), (1, .int (Int32.ofInt a0))]) (by decide +kernel) (by (try simp only [ev_sum, ev_nv_cat]); first | done | rfl) (by (try simp only [lv_args, ev_nv_cat]); first | done | rfl) ?_ x S' hJ
  unfold jm_235
  refine ev_r_aload_n (pc := 0) (k := 0) (v := .ref 621) trivial (by decide +kernel) (by rfl) ?_
  refine ev_r_getC (pc := 1) (y := 50) (ci := 13) (f := 16) (fin := 1) (k' := 635) (by decide +kernel) (by decide +kernel) (by exact ev_ob_621) rfl rfl ?_
  refine ev_r_bipush (pc := 4) (k := 12) (by decide +kernel) (by decide +kernel) ?_
  refine ev_r_iald (pc := 6) (by decide) (by decide +kernel) (by exact ev_ab_635) ?_
  intro x1 hx1
  refine ev_r_istore_n (pc := 7) (k := 2) (by decide +kernel) (by decide +kernel) rfl ?_
  refine ev_r_iload_n (pc := 8) (k := 2) (v := Int32.ofInt x1) (by decide +kernel) (by exact ev_lk_st1_self) ?_
  refine ev_r_sipush (pc := 9) (k := 320) (by decide +kernel) (by decide +kernel) ?_
  refine ev_r_icmp (pc := 12) (q := .ne) (o := 12) (t := 24) (c := x1 ≠ 320) (by decide +kernel) (ev_k_ne hx1 (by decide)) (by decide +kernel) ?_ ?_
  · intro c2
    refine ev_r_aload_n (pc := 24) (k := 0) (v := .ref 621) trivial (by decide +kernel) (by exact (ev_l1 (by rfl) (by decide) (by decide))) ?_
    refine ev_r_virt (pc := 25) (y := 356) (mi := 232) (na := 0) (k := 621) (as := []) (rest := []) (encc := ev_oI) (Q := ev_rng) (fun x S1 h => jt_232 d (by omega) Q   S x S1 h) (by exact ev_ob_621) (by decide +kernel) (by decide +kernel) (by decide +kernel) (by decide +kernel) rfl (by (try simp only [ev_sum, ev_nv_cat]); first | done | rfl) ?_
    intro x4 s3 hx4
    show ev_w _ _ _ _ _ [.int (Int32.ofInt x4)] _ _ _ _
    refine ev_r_iload_n (pc := 28) (k := 2) (v := Int32.ofInt x1) (by decide +kernel) (by exact ev_lk_st1_self) ?_
    refine ev_r_iadd (pc := 29) (by decide +kernel) ?_
    intro x5 hx5
    refine ev_r_istore_n (pc := 30) (k := 3) (by decide +kernel) (by decide +kernel) rfl ?_
    refine ev_r_aload_n (pc := 31) (k := 0) (v := .ref 621) trivial (by decide +kernel) (by exact (ev_l1 (ev_l1 (by rfl) (by decide) (by decide)) (by decide) (by decide))) ?_
    refine ev_r_getC (pc := 32) (y := 19) (ci := 13) (f := 6) (fin := 1) (k' := 625) (by decide +kernel) (by decide +kernel) (by exact ev_ob_621) rfl rfl ?_
    refine ev_r_iload_n (pc := 35) (k := 3) (v := Int32.ofInt x5) (by decide +kernel) (by exact ev_lk_st1_self) ?_
    refine ev_r_iload_n (pc := 36) (k := 1) (v := Int32.ofInt a0) (by decide +kernel) (by exact (ev_l1 (ev_lk_st1 (by rfl) (by decide) rfl) (by decide) (by decide))) ?_
    refine ev_r_iast (pc := 37) ha0 hx5 (by decide +kernel) (by exact ev_ab_625) ?_
    intro s6
    refine ev_r_aload_n (pc := 38) (k := 0) (v := .ref 621) trivial (by decide +kernel) (by exact (ev_l1 (ev_l1 (by rfl) (by decide) (by decide)) (by decide) (by decide))) ?_
    refine ev_r_getC (pc := 39) (y := 22) (ci := 13) (f := 7) (fin := 1) (k' := 626) (by decide +kernel) (by decide +kernel) (by exact ev_ob_621) rfl rfl ?_
    refine ev_r_iload_n (pc := 42) (k := 3) (v := Int32.ofInt x5) (by decide +kernel) (by exact ev_lk_st1_self) ?_
    refine ev_r_iconst (pc := 43) (k := -1) (by decide +kernel) ?_
    refine ev_r_iast (pc := 44) (by decide) hx5 (by decide +kernel) (by exact ev_ab_626) ?_
    intro s7
    refine ev_r_aload_n (pc := 45) (k := 0) (v := .ref 621) trivial (by decide +kernel) (by exact (ev_l1 (ev_l1 (by rfl) (by decide) (by decide)) (by decide) (by decide))) ?_
    refine ev_r_getC (pc := 46) (y := 25) (ci := 13) (f := 8) (fin := 1) (k' := 627) (by decide +kernel) (by decide +kernel) (by exact ev_ob_621) rfl rfl ?_
    refine ev_r_iload_n (pc := 49) (k := 3) (v := Int32.ofInt x5) (by decide +kernel) (by exact ev_lk_st1_self) ?_
    refine ev_r_iconst (pc := 50) (k := -1) (by decide +kernel) ?_
    refine ev_r_iast (pc := 51) (by decide) hx5 (by decide +kernel) (by exact ev_ab_627) ?_
    intro s8
    refine ev_r_aload_n (pc := 52) (k := 0) (v := .ref 621) trivial (by decide +kernel) (by exact (ev_l1 (ev_l1 (by rfl) (by decide) (by decide)) (by decide) (by decide))) ?_
    refine ev_r_getC (pc := 53) (y := 28) (ci := 13) (f := 9) (fin := 1) (k' := 628) (by decide +kernel) (by decide +kernel) (by exact ev_ob_621) rfl rfl ?_
    refine ev_r_iload_n (pc := 56) (k := 3) (v := Int32.ofInt x5) (by decide +kernel) (by exact ev_lk_st1_self) ?_
    refine ev_r_iconst (pc := 57) (k := 0) (by decide +kernel) ?_
    refine ev_r_iast (pc := 58) (by decide) hx5 (by decide +kernel) (by exact ev_ab_628) ?_
    intro s9
    refine ev_r_aload_n (pc := 59) (k := 0) (v := .ref 621) trivial (by decide +kernel) (by exact (ev_l1 (ev_l1 (by rfl) (by decide) (by decide)) (by decide) (by decide))) ?_
    refine ev_r_getC (pc := 60) (y := 31) (ci := 13) (f := 10) (fin := 1) (k' := 629) (by decide +kernel) (by decide +kernel) (by exact ev_ob_621) rfl rfl ?_
    refine ev_r_iload_n (pc := 63) (k := 3) (v := Int32.ofInt x5) (by decide +kernel) (by exact ev_lk_st1_self) ?_
    refine ev_r_iconst (pc := 64) (k := 0) (by decide +kernel) ?_
    refine ev_r_iast (pc := 65) (by decide) hx5 (by decide +kernel) (by exact ev_ab_629) ?_
    intro s10
    refine ev_r_aload_n (pc := 66) (k := 0) (v := .ref 621) trivial (by decide +kernel) (by exact (ev_l1 (ev_l1 (by rfl) (by decide) (by decide)) (by decide) (by decide))) ?_
    refine ev_r_getC (pc := 67) (y := 34) (ci := 13) (f := 11) (fin := 1) (k' := 630) (by decide +kernel) (by decide +kernel) (by exact ev_ob_621) rfl rfl ?_
    refine ev_r_iload_n (pc := 70) (k := 3) (v := Int32.ofInt x5) (by decide +kernel) (by exact ev_lk_st1_self) ?_
    refine ev_r_iconst (pc := 71) (k := -1) (by decide +kernel) ?_
    refine ev_r_iast (pc := 72) (by decide) hx5 (by decide +kernel) (by exact ev_ab_630) ?_
    intro s11
    refine ev_r_aload_n (pc := 73) (k := 0) (v := .ref 621) trivial (by decide +kernel) (by exact (ev_l1 (ev_l1 (by rfl) (by decide) (by decide)) (by decide) (by decide))) ?_
    refine ev_r_getC (pc := 74) (y := 37) (ci := 13) (f := 12) (fin := 1) (k' := 631) (by decide +kernel) (by decide +kernel) (by exact ev_ob_621) rfl rfl ?_
    refine ev_r_iload_n (pc := 77) (k := 3) (v := Int32.ofInt x5) (by decide +kernel) (by exact ev_lk_st1_self) ?_
    refine ev_r_iconst (pc := 78) (k := 1) (by decide +kernel) ?_
    refine ev_r_iast (pc := 79) (by decide) hx5 (by decide +kernel) (by exact ev_ab_631) ?_
    intro s12
    refine ev_r_aload_n (pc := 80) (k := 0) (v := .ref 621) trivial (by decide +kernel) (by exact (ev_l1 (ev_l1 (by rfl) (by decide) (by decide)) (by decide) (by decide))) ?_
    refine ev_r_getC (pc := 81) (y := 40) (ci := 13) (f := 13) (fin := 1) (k' := 632) (by decide +kernel) (by decide +kernel) (by exact ev_ob_621) rfl rfl ?_
    refine ev_r_iload_n (pc := 84) (k := 3) (v := Int32.ofInt x5) (by decide +kernel) (by exact ev_lk_st1_self) ?_
    refine ev_r_iconst (pc := 85) (k := 1) (by decide +kernel) ?_
    refine ev_r_iast (pc := 86) (by decide) hx5 (by decide +kernel) (by exact ev_ab_632) ?_
    intro s13
    refine ev_r_aload_n (pc := 87) (k := 0) (v := .ref 621) trivial (by decide +kernel) (by exact (ev_l1 (ev_l1 (by rfl) (by decide) (by decide)) (by decide) (by decide))) ?_
    refine ev_r_getC (pc := 88) (y := 43) (ci := 13) (f := 14) (fin := 1) (k' := 633) (by decide +kernel) (by decide +kernel) (by exact ev_ob_621) rfl rfl ?_
    refine ev_r_iload_n (pc := 91) (k := 3) (v := Int32.ofInt x5) (by decide +kernel) (by exact ev_lk_st1_self) ?_
    refine ev_r_lconst (pc := 92) (c := 0) (by decide +kernel) ?_
    refine ev_r_last (pc := 93) hx5 (by decide +kernel) (by exact ev_ab_633) ?_
    intro s14
    refine ev_r_aload_n (pc := 94) (k := 0) (v := .ref 621) trivial (by decide +kernel) (by exact (ev_l1 (ev_l1 (by rfl) (by decide) (by decide)) (by decide) (by decide))) ?_
    refine ev_r_getC (pc := 95) (y := 47) (ci := 13) (f := 15) (fin := 1) (k' := 634) (by decide +kernel) (by decide +kernel) (by exact ev_ob_621) rfl rfl ?_
    refine ev_r_iload_n (pc := 98) (k := 3) (v := Int32.ofInt x5) (by decide +kernel) (by exact ev_lk_st1_self) ?_
    refine ev_r_lconst (pc := 99) (c := 0) (by decide +kernel) ?_
    refine ev_r_last (pc := 100) hx5 (by decide +kernel) (by exact ev_ab_634) ?_
    intro s15
    refine ev_r_aload_n (pc := 101) (k := 0) (v := .ref 621) trivial (by decide +kernel) (by exact (ev_l1 (ev_l1 (by rfl) (by decide) (by decide)) (by decide) (by decide))) ?_
    refine ev_r_getC (pc := 102) (y := 50) (ci := 13) (f := 16) (fin := 1) (k' := 635) (by decide +kernel) (by decide +kernel) (by exact ev_ob_621) rfl rfl ?_
    refine ev_r_bipush (pc := 105) (k := 12) (by decide +kernel) (by decide +kernel) ?_
    refine ev_r_dup2 (pc := 107) rfl rfl (by decide +kernel) ?_
    refine ev_r_iald (pc := 108) (by decide) (by decide +kernel) (by exact ev_ab_635) ?_
    intro x16 hx16
    refine ev_r_iconst (pc := 109) (k := 1) (by decide +kernel) ?_
    refine ev_r_iadd (pc := 110) (by decide +kernel) ?_
    intro x17 hx17
    refine ev_r_iast (pc := 111) hx17 (by decide) (by decide +kernel) (by exact ev_ab_635) ?_
    intro s18
    refine ev_r_iload_n (pc := 112) (k := 2) (v := Int32.ofInt x1) (by decide +kernel) (by exact (ev_lk_st1 ev_lk_st1_self (by decide) rfl)) ?_
    exact ev_r_ireturn (pc := 113) (x := x1) (v := Int32.ofInt x1) (ty := .int) hx1 (by decide +kernel) (by decide +kernel) rfl rfl
  · intro c2
    refine ev_r_aload_n (pc := 15) (k := 0) (v := .ref 621) trivial (by decide +kernel) (by exact (ev_l1 (by rfl) (by decide) (by decide))) ?_
    refine ev_r_iconst (pc := 16) (k := 1) (by decide +kernel) ?_
    refine ev_r_putI (pc := 17) (y := 352) (ci := 13) (f := 25) (by decide) (by decide +kernel) (by decide +kernel) (by exact ev_ob_621) rfl (ev_fit_bl (by decide : ev_bl 1)) ?_
    intro s19
    refine ev_r_iload_n (pc := 20) (k := 2) (v := Int32.ofInt x1) (by decide +kernel) (by exact ev_lk_st1_self) ?_
    refine ev_r_iconst (pc := 21) (k := 1) (by decide +kernel) ?_
    refine ev_r_isub (pc := 22) (by decide +kernel) ?_
    intro x20 hx20
    exact ev_r_ireturn (pc := 23) (x := x20) (v := Int32.ofInt x20) (ty := .int) hx20 (by decide +kernel) (by decide +kernel) rfl rfl
/-- MendBenchModel.counts()V -/
def jm_236 (Q : Nat)  (S : ev_St) : Option ((Unit) × ev_St) := ev_b (S.1 621 27) fun x1 => ev_ck (x1 + 1) fun x2 => ev_b (ev_pI S 621 27 x2) fun s3 => ev_b (s3.1 621 25) fun x4 => if x4 ≠ 0 then (ev_b (ev_pI s3 621 25 1) fun s6 => some ((), s6)) else (ev_b (s3.1 621 27) fun x7 => if x7 ≤ 150 then (ev_b (ev_pI s3 621 25 0) fun s9 => some ((), s9)) else (ev_b (ev_pI s3 621 25 1) fun s10 => some ((), s10)))
theorem jt_236 (d : Nat) (hd : 1 ≤ d) (Q : Nat)   (S : ev_St) (x : Unit) (S' : ev_St) (hJ : jm_236 Q  S = some (x, S')) : ev_Ref d 236 [.ref 621] S (ev_eU x) S' (ev_PU x) := by
  obtain ⟨d, rfl⟩ : ∃ e, d = e + 1 := ⟨d - 1, by omega⟩
  refine ev_ref_of (P := ev_PU) (lv := [(0, .ref 621)]) (by decide +kernel) (by (try simp only [ev_sum, ev_nv_cat]); first | done | rfl) (by (try simp only [lv_args, ev_nv_cat]); first | done | rfl) ?_ x S' hJ
  unfold jm_236
  refine ev_r_aload_n (pc := 0) (k := 0) (v := .ref 621) trivial (by decide +kernel) (by rfl) ?_
  refine ev_r_dup (pc := 1) rfl (by decide +kernel) ?_
  refine ev_r_getI (pc := 2) (y := 360) (ci := 13) (f := 27) (fin := 0) (by decide +kernel) (by decide +kernel) (by exact ev_ob_621) rfl ?_
  intro x1 hx1
  refine ev_r_iconst (pc := 5) (k := 1) (by decide +kernel) ?_
  refine ev_r_iadd (pc := 6) (by decide +kernel) ?_
  intro x2 hx2
  refine ev_r_putI (pc := 7) (y := 360) (ci := 13) (f := 27) hx2 (by decide +kernel) (by decide +kernel) (by exact ev_ob_621) rfl rfl ?_
  intro s3
  refine ev_r_aload_n (pc := 10) (k := 0) (v := .ref 621) trivial (by decide +kernel) (by rfl) ?_
  refine ev_r_aload_n (pc := 11) (k := 0) (v := .ref 621) trivial (by decide +kernel) (by rfl) ?_
  refine ev_r_getI (pc := 12) (y := 352) (ci := 13) (f := 25) (fin := 0) (by decide +kernel) (by decide +kernel) (by exact ev_ob_621) rfl ?_
  intro x4 hx4
  refine ev_r_if (pc := 15) (q := .ne) (o := 13) (t := 28) (c := x4 ≠ 0) (by decide +kernel) (ev_k_ne hx4 ev_rng0) (by decide +kernel) ?_ ?_
  · intro c5
    refine ev_r_iconst (pc := 28) (k := 1) (by decide +kernel) ?_
    refine ev_r_goto (pc := 29) (o := 4) (t := 33) (by decide +kernel) (by decide +kernel) ?_
    refine ev_r_putI (pc := 33) (y := 352) (ci := 13) (f := 25) (by decide) (by decide +kernel) (by decide +kernel) (by exact ev_ob_621) rfl (ev_fit_bl (by decide : ev_bl 1)) ?_
    intro s6
    exact ev_r_return (pc := 36) (x := ()) trivial (by decide +kernel) (by decide +kernel) rfl
  · intro c5
    refine ev_r_aload_n (pc := 18) (k := 0) (v := .ref 621) trivial (by decide +kernel) (by rfl) ?_
    refine ev_r_getI (pc := 19) (y := 360) (ci := 13) (f := 27) (fin := 0) (by decide +kernel) (by decide +kernel) (by exact ev_ob_621) rfl ?_
    intro x7 hx7
    refine ev_r_sipush (pc := 22) (k := 150) (by decide +kernel) (by decide +kernel) ?_
    refine ev_r_icmp (pc := 25) (q := .le) (o := 7) (t := 32) (c := x7 ≤ 150) (by decide +kernel) (ev_k_le hx7 (by decide)) (by decide +kernel) ?_ ?_
    · intro c8
      refine ev_r_iconst (pc := 32) (k := 0) (by decide +kernel) ?_
      refine ev_r_putI (pc := 33) (y := 352) (ci := 13) (f := 25) (by decide) (by decide +kernel) (by decide +kernel) (by exact ev_ob_621) rfl (ev_fit_bl (by decide : ev_bl 0)) ?_
      intro s9
      exact ev_r_return (pc := 36) (x := ()) trivial (by decide +kernel) (by decide +kernel) rfl
    · intro c8
      refine ev_r_iconst (pc := 28) (k := 1) (by decide +kernel) ?_
      refine ev_r_goto (pc := 29) (o := 4) (t := 33) (by decide +kernel) (by decide +kernel) ?_
      refine ev_r_putI (pc := 33) (y := 352) (ci := 13) (f := 25) (by decide) (by decide +kernel) (by decide +kernel) (by exact ev_ob_621) rfl (ev_fit_bl (by decide : ev_bl 1)) ?_
      intro s10
      exact ev_r_return (pc := 36) (x := ()) trivial (by decide +kernel) (by decide +kernel) rfl
/-- MendBenchModel.adds(I)I -/
def jm_237 (Q : Nat) (a0 : Int) (S : ev_St) : Option ((Int) × ev_St) := ev_bd (jm_235 Q a0 S) fun x2 s1 => ev_bd (jm_236 Q  s1) fun _ s3 => ev_b (s3.1 621 38) fun x4 => ev_jn (fun (x5 : Int) (s9 : ev_St) => ev_b (ev_pI s9 621 38 x5) fun s10 => ev_b (ev_pI s10 621 39 x5) fun s11 => some (x5, s11)) fun K51 => if x4 ≠ (-1) then (ev_bd (jm_232 Q  s3) fun x14 s13 => ev_b (s13.1 621 38) fun x15 => ev_ck (x14 + x15) fun x16 => ev_if ((0 : Int) ≤ x16 ∧ x16 < (ev_aln 627 : Int)) (ev_b (ev_pI s13 627 (Int.toNat x16) x2) fun s17 => K51 x2 s17)) else (ev_bd (jm_232 Q  s3) fun x19 s18 => ev_b (s18.1 621 37) fun x20 => ev_ck (x19 + x20) fun x21 => ev_if ((0 : Int) ≤ x21 ∧ x21 < (ev_aln 626 : Int)) (ev_b (ev_pI s18 626 (Int.toNat x21) x2) fun s22 => K51 x2 s22))
theorem jt_237 (d : Nat) (hd : 3 ≤ d) (Q : Nat) (a0 : Int) (ha0 : ev_rng a0) (S : ev_St) (x : Int) (S' : ev_St) (hJ : jm_237 Q a0 S = some (x, S')) : ev_Ref d 237 [.ref 621, .int (Int32.ofInt a0)] S (ev_eI x) S' (ev_rng x) := by
  obtain ⟨d, rfl⟩ : ∃ e, d = e + 1 := ⟨d - 1, by omega⟩
  refine ev_ref_of (P := ev_rng) (lv := [(0, .ref 621), (1, .int (Int32.ofInt a0))]) (by decide +kernel) (by (try simp only [ev_sum, ev_nv_cat]); first | done | rfl) (by (try simp only [lv_args, ev_nv_cat]); first | done | rfl) ?_ x S' hJ
  unfold jm_237
  refine ev_r_aload_n (pc := 0) (k := 0) (v := .ref 621) trivial (by decide +kernel) (by rfl) ?_
  refine ev_r_iload_n (pc := 1) (k := 1) (v := Int32.ofInt a0) (by decide +kernel) (by rfl) ?_
  refine ev_r_virt (pc := 2) (y := 363) (mi := 235) (na := 1) (k := 621) (as := [.int (Int32.ofInt a0)]) (rest := []) (encc := ev_oI) (Q := ev_rng) (fun x S1 h => jt_235 d (by omega) Q a0 ha0 S x S1 h) (by exact ev_ob_621) (by decide +kernel) (by decide +kernel) (by decide +kernel) (by decide +kernel) rfl (by (try simp only [ev_sum, ev_nv_cat]); first | done | rfl) ?_
  intro x2 s1 hx2
  show ev_w _ _ _ _ _ [.int (Int32.ofInt x2)] _ _ _ _
  refine ev_r_istore_n (pc := 5) (k := 2) (by decide +kernel) (by decide +kernel) rfl ?_
  refine ev_r_aload_n (pc := 6) (k := 0) (v := .ref 621) trivial (by decide +kernel) (by exact (ev_l1 (by rfl) (by decide) (by decide))) ?_
  refine ev_r_virt (pc := 7) (y := 366) (mi := 236) (na := 0) (k := 621) (as := []) (rest := []) (encc := ev_oU) (Q := ev_PU) (fun x S1 h => jt_236 d (by omega) Q   s1 x S1 h) (by exact ev_ob_621) (by decide +kernel) (by decide +kernel) (by decide +kernel) (by decide +kernel) rfl (by (try simp only [ev_sum, ev_nv_cat]); first | done | rfl) ?_
  intro _ s3 _
  show ev_w _ _ _ _ _ [] _ _ _ _
  refine ev_r_aload_n (pc := 10) (k := 0) (v := .ref 621) trivial (by decide +kernel) (by exact (ev_l1 (by rfl) (by decide) (by decide))) ?_
  refine ev_r_getI (pc := 11) (y := 369) (ci := 13) (f := 38) (fin := 0) (by decide +kernel) (by decide +kernel) (by exact ev_ob_621) rfl ?_
  intro x4 hx4
  refine ev_r_iconst (pc := 14) (k := -1) (by decide +kernel) ?_
  refine ev_r_jn (Q := fun K => ∀ (x5 : Int) (hx5 : ev_rng x5), ∀ (s9 : ev_St) (w6 : List (Nat × Value)), ev_lk w6 0 = some (.ref 621) → ev_lk w6 2 = some (.int (Int32.ofInt x5)) → ev_w none (ev_Mof 237) d 51 w6 [] s9 (K x5 s9) ev_eI ev_rng) ?_ ?_
  · intro x5 hx5 s9 w6 e7 e8
    refine ev_r_aload_n (pc := 51) (k := 0) (v := .ref 621) trivial (by decide +kernel) (by exact e7) ?_
    refine ev_r_iload_n (pc := 52) (k := 2) (v := Int32.ofInt x5) (by decide +kernel) (by exact e8) ?_
    refine ev_r_putI (pc := 53) (y := 369) (ci := 13) (f := 38) hx5 (by decide +kernel) (by decide +kernel) (by exact ev_ob_621) rfl rfl ?_
    intro s10
    refine ev_r_aload_n (pc := 56) (k := 0) (v := .ref 621) trivial (by decide +kernel) (by exact e7) ?_
    refine ev_r_iload_n (pc := 57) (k := 2) (v := Int32.ofInt x5) (by decide +kernel) (by exact e8) ?_
    refine ev_r_putI (pc := 58) (y := 375) (ci := 13) (f := 39) hx5 (by decide +kernel) (by decide +kernel) (by exact ev_ob_621) rfl rfl ?_
    intro s11
    refine ev_r_iload_n (pc := 61) (k := 2) (v := Int32.ofInt x5) (by decide +kernel) (by exact e8) ?_
    exact ev_r_ireturn (pc := 62) (x := x5) (v := Int32.ofInt x5) (ty := .int) hx5 (by decide +kernel) (by decide +kernel) rfl rfl
  · intro K51 hK51
    refine ev_r_icmp (pc := 15) (q := .ne) (o := 21) (t := 36) (c := x4 ≠ (-1)) (by decide +kernel) (ev_k_ne hx4 (by decide)) (by decide +kernel) ?_ ?_
    · intro c12
      refine ev_r_aload_n (pc := 36) (k := 0) (v := .ref 621) trivial (by decide +kernel) (by exact (ev_l1 (by rfl) (by decide) (by decide))) ?_
      refine ev_r_getC (pc := 37) (y := 25) (ci := 13) (f := 8) (fin := 1) (k' := 627) (by decide +kernel) (by decide +kernel) (by exact ev_ob_621) rfl rfl ?_
      refine ev_r_aload_n (pc := 40) (k := 0) (v := .ref 621) trivial (by decide +kernel) (by exact (ev_l1 (by rfl) (by decide) (by decide))) ?_
      refine ev_r_virt (pc := 41) (y := 356) (mi := 232) (na := 0) (k := 621) (as := []) (rest := [.ref 627]) (encc := ev_oI) (Q := ev_rng) (fun x S1 h => jt_232 d (by omega) Q   s3 x S1 h) (by exact ev_ob_621) (by decide +kernel) (by decide +kernel) (by decide +kernel) (by decide +kernel) rfl (by (try simp only [ev_sum, ev_nv_cat]); first | done | rfl) ?_
      intro x14 s13 hx14
      show ev_w _ _ _ _ _ [.int (Int32.ofInt x14), .ref 627] _ _ _ _
      refine ev_r_aload_n (pc := 44) (k := 0) (v := .ref 621) trivial (by decide +kernel) (by exact (ev_l1 (by rfl) (by decide) (by decide))) ?_
      refine ev_r_getI (pc := 45) (y := 369) (ci := 13) (f := 38) (fin := 0) (by decide +kernel) (by decide +kernel) (by exact ev_ob_621) rfl ?_
      intro x15 hx15
      refine ev_r_iadd (pc := 48) (by decide +kernel) ?_
      intro x16 hx16
      refine ev_r_iload_n (pc := 49) (k := 2) (v := Int32.ofInt x2) (by decide +kernel) (by exact ev_lk_st1_self) ?_
      refine ev_r_iast (pc := 50) hx2 hx16 (by decide +kernel) (by exact ev_ab_627) ?_
      intro s17
      exact hK51 x2 hx2 s17 _ (by exact (ev_l1 (by rfl) (by decide) (by decide))) (by exact ev_lk_st1_self)
    · intro c12
      refine ev_r_aload_n (pc := 18) (k := 0) (v := .ref 621) trivial (by decide +kernel) (by exact (ev_l1 (by rfl) (by decide) (by decide))) ?_
      refine ev_r_getC (pc := 19) (y := 22) (ci := 13) (f := 7) (fin := 1) (k' := 626) (by decide +kernel) (by decide +kernel) (by exact ev_ob_621) rfl rfl ?_
      refine ev_r_aload_n (pc := 22) (k := 0) (v := .ref 621) trivial (by decide +kernel) (by exact (ev_l1 (by rfl) (by decide) (by decide))) ?_
      refine ev_r_virt (pc := 23) (y := 356) (mi := 232) (na := 0) (k := 621) (as := []) (rest := [.ref 626]) (encc := ev_oI) (Q := ev_rng) (fun x S1 h => jt_232 d (by omega) Q   s3 x S1 h) (by exact ev_ob_621) (by decide +kernel) (by decide +kernel) (by decide +kernel) (by decide +kernel) rfl (by (try simp only [ev_sum, ev_nv_cat]); first | done | rfl) ?_
      intro x19 s18 hx19
      show ev_w _ _ _ _ _ [.int (Int32.ofInt x19), .ref 626] _ _ _ _
      refine ev_r_aload_n (pc := 26) (k := 0) (v := .ref 621) trivial (by decide +kernel) (by exact (ev_l1 (by rfl) (by decide) (by decide))) ?_
      refine ev_r_getI (pc := 27) (y := 372) (ci := 13) (f := 37) (fin := 0) (by decide +kernel) (by decide +kernel) (by exact ev_ob_621) rfl ?_
      intro x20 hx20
      refine ev_r_iadd (pc := 30) (by decide +kernel) ?_
      intro x21 hx21
      refine ev_r_iload_n (pc := 31) (k := 2) (v := Int32.ofInt x2) (by decide +kernel) (by exact ev_lk_st1_self) ?_
      refine ev_r_iast (pc := 32) hx2 hx21 (by decide +kernel) (by exact ev_ab_626) ?_
      intro s22
      refine ev_r_goto (pc := 33) (o := 18) (t := 51) (by decide +kernel) (by decide +kernel) ?_
      exact hK51 x2 hx2 s22 _ (by exact (ev_l1 (by rfl) (by decide) (by decide))) (by exact ev_lk_st1_self)
/-- MendBenchModel.addsSet(JJ)V -/
def jm_238 (Q : Nat) (a0 : Int64) (a1 : Int64) (S : ev_St) : Option ((Unit) × ev_St) := ev_bd (jm_232 Q  S) fun x2 s1 => ev_bd (jm_237 Q 0 s1) fun x4 s3 => ev_ck (x2 + x4) fun x5 => ev_if ((0 : Int) ≤ x5 ∧ x5 < (ev_aln 633 : Int)) (ev_b (ev_pL s3 633 (Int.toNat x5) a0) fun s6 => ev_if ((0 : Int) ≤ x5 ∧ x5 < (ev_aln 634 : Int)) (ev_b (ev_pL s6 634 (Int.toNat x5) a1) fun s7 => some ((), s7)))
theorem jt_238 (d : Nat) (hd : 4 ≤ d) (Q : Nat) (a0 : Int64) (a1 : Int64)  (S : ev_St) (x : Unit) (S' : ev_St) (hJ : jm_238 Q a0 a1 S = some (x, S')) : ev_Ref d 238 [.ref 621, .long a0, .long a1] S (ev_eU x) S' (ev_PU x) := by
  obtain ⟨d, rfl⟩ : ∃ e, d = e + 1 := ⟨d - 1, by omega⟩
  refine ev_ref_of (P := ev_PU) (lv := [(0, .ref 621), (1, .long a0), (3, .long a1)]) (by decide +kernel) (by (try simp only [ev_sum, ev_nv_cat]); first | done | rfl) (by (try simp only [lv_args, ev_nv_cat]); first | done | rfl) ?_ x S' hJ
  unfold jm_238
  refine ev_r_aload_n (pc := 0) (k := 0) (v := .ref 621) trivial (by decide +kernel) (by rfl) ?_
  refine ev_r_virt (pc := 1) (y := 356) (mi := 232) (na := 0) (k := 621) (as := []) (rest := []) (encc := ev_oI) (Q := ev_rng) (fun x S1 h => jt_232 d (by omega) Q   S x S1 h) (by exact ev_ob_621) (by decide +kernel) (by decide +kernel) (by decide +kernel) (by decide +kernel) rfl (by (try simp only [ev_sum, ev_nv_cat]); first | done | rfl) ?_
  intro x2 s1 hx2
  show ev_w _ _ _ _ _ [.int (Int32.ofInt x2)] _ _ _ _
  refine ev_r_aload_n (pc := 4) (k := 0) (v := .ref 621) trivial (by decide +kernel) (by rfl) ?_
  refine ev_r_iconst (pc := 5) (k := 0) (by decide +kernel) ?_
  refine ev_r_virt (pc := 6) (y := 378) (mi := 237) (na := 1) (k := 621) (as := [.int (Int32.ofInt 0)]) (rest := [.int (Int32.ofInt x2)]) (encc := ev_oI) (Q := ev_rng) (fun x S1 h => jt_237 d (by omega) Q 0 (by decide) s1 x S1 h) (by exact ev_ob_621) (by decide +kernel) (by decide +kernel) (by decide +kernel) (by decide +kernel) rfl (by (try simp only [ev_sum, ev_nv_cat]); first | done | rfl) ?_
  intro x4 s3 hx4
  show ev_w _ _ _ _ _ [.int (Int32.ofInt x4), .int (Int32.ofInt x2)] _ _ _ _
  refine ev_r_iadd (pc := 9) (by decide +kernel) ?_
  intro x5 hx5
  refine ev_r_istore (pc := 10) (k := 5) (by decide +kernel) (by decide +kernel) rfl ?_
  refine ev_r_aload_n (pc := 12) (k := 0) (v := .ref 621) trivial (by decide +kernel) (by exact (ev_l1 (by rfl) (by decide) (by decide))) ?_
  refine ev_r_getC (pc := 13) (y := 43) (ci := 13) (f := 14) (fin := 1) (k' := 633) (by decide +kernel) (by decide +kernel) (by exact ev_ob_621) rfl rfl ?_
  refine ev_r_iload (pc := 16) (k := 5) (v := Int32.ofInt x5) (by decide +kernel) (by exact ev_lk_st1_self) ?_
  refine ev_r_lload_n (pc := 18) (k := 1) (v := a0) (by decide +kernel) (by exact (ev_l1 (by rfl) (by decide) (by decide))) ?_
  refine ev_r_last (pc := 19) hx5 (by decide +kernel) (by exact ev_ab_633) ?_
  intro s6
  refine ev_r_aload_n (pc := 20) (k := 0) (v := .ref 621) trivial (by decide +kernel) (by exact (ev_l1 (by rfl) (by decide) (by decide))) ?_
  refine ev_r_getC (pc := 21) (y := 47) (ci := 13) (f := 15) (fin := 1) (k' := 634) (by decide +kernel) (by decide +kernel) (by exact ev_ob_621) rfl rfl ?_
  refine ev_r_iload (pc := 24) (k := 5) (v := Int32.ofInt x5) (by decide +kernel) (by exact ev_lk_st1_self) ?_
  refine ev_r_lload_n (pc := 26) (k := 3) (v := a1) (by decide +kernel) (by exact (ev_l1 (by rfl) (by decide) (by decide))) ?_
  refine ev_r_last (pc := 27) hx5 (by decide +kernel) (by exact ev_ab_634) ?_
  intro s7
  exact ev_r_return (pc := 28) (x := ()) trivial (by decide +kernel) (by decide +kernel) rfl
/-- MendBenchModel.opens(IZ)V -/
def jm_239 (Q : Nat) (a0 : Int) (a1 : Int) (S : ev_St) : Option ((Unit) × ev_St) := ev_b (S.1 621 31) fun x1 => if x1 ≠ 160 then (ev_b (S.1 621 31) fun x3 => ev_if ((0 : Int) ≤ x3 ∧ x3 < (ev_aln 646 : Int)) (ev_b (ev_pI S 646 (Int.toNat x3) a0) fun s4 => ev_b (s4.1 621 31) fun x5 => ev_b (s4.1 621 37) fun x6 => ev_if ((0 : Int) ≤ x5 ∧ x5 < (ev_aln 647 : Int)) (ev_b (ev_pI s4 647 (Int.toNat x5) x6) fun s7 => ev_b (s7.1 621 31) fun x8 => ev_b (s7.1 621 38) fun x9 => ev_if ((0 : Int) ≤ x8 ∧ x8 < (ev_aln 648 : Int)) (ev_b (ev_pI s7 648 (Int.toNat x8) x9) fun s10 => ev_b (s10.1 621 31) fun x11 => ev_b (s10.1 621 40) fun x12 => ev_if ((0 : Int) ≤ x11 ∧ x11 < (ev_aln 649 : Int)) (ev_b (ev_pI s10 649 (Int.toNat x11) x12) fun s13 => ev_b (s13.1 621 31) fun x14 => ev_if (ev_bl a1) (ev_if ((0 : Int) ≤ x14 ∧ x14 < (ev_aln 650 : Int)) (ev_b (ev_pI s13 650 (Int.toNat x14) a1) fun s15 => ev_b (s15.1 621 31) fun x17 => ev_ck (x17 + 1) fun x18 => ev_b (ev_pI s15 621 31 x18) fun s19 => ev_bd (jm_235 Q 18 s19) fun x21 s20 => ev_b (ev_pI s20 621 37 x21) fun s22 => ev_bd (jm_232 Q  s22) fun x24 s23 => ev_ck (x24 + a0) fun x25 => ev_b (s23.1 621 37) fun x26 => ev_if ((0 : Int) ≤ x25 ∧ x25 < (ev_aln 626 : Int)) (ev_b (ev_pI s23 626 (Int.toNat x25) x26) fun s27 => ev_b (ev_pI s27 621 38 ((-1))) fun s28 => ev_b (ev_pI s28 621 39 ((-1))) fun s29 => some ((), s29))))))))) else (ev_b (ev_pI S 621 25 1) fun s30 => some ((), s30))
theorem jt_239 (d : Nat) (hd : 3 ≤ d) (Q : Nat) (a0 : Int) (a1 : Int) (ha0 : ev_rng a0) (ha1 : ev_rng a1) (S : ev_St) (x : Unit) (S' : ev_St) (hJ : jm_239 Q a0 a1 S = some (x, S')) : ev_Ref d 239 [.ref 621, .int (Int32.ofInt a0), .int (Int32.ofInt a1)] S (ev_eU x) S' (ev_PU x) := by
  obtain ⟨d, rfl⟩ : ∃ e, d = e + 1 := ⟨d - 1, by omega⟩
  refine ev_ref_of (P := ev_PU) (lv := [(0, .ref 621), (1, .int (Int32.ofInt a0)), (2, .int (Int32.ofInt a1))]) (by decide +kernel) (by (try simp only [ev_sum, ev_nv_cat]); first | done | rfl) (by (try simp only [lv_args, ev_nv_cat]); first | done | rfl) ?_ x S' hJ
  unfold jm_239
  refine ev_r_aload_n (pc := 0) (k := 0) (v := .ref 621) trivial (by decide +kernel) (by rfl) ?_
  refine ev_r_getI (pc := 1) (y := 381) (ci := 13) (f := 31) (fin := 0) (by decide +kernel) (by decide +kernel) (by exact ev_ob_621) rfl ?_
  intro x1 hx1
  refine ev_r_sipush (pc := 4) (k := 160) (by decide +kernel) (by decide +kernel) ?_
  refine ev_r_icmp (pc := 7) (q := .ne) (o := 9) (t := 16) (c := x1 ≠ 160) (by decide +kernel) (ev_k_ne hx1 (by decide)) (by decide +kernel) ?_ ?_
  · intro c2
    refine ev_r_aload_n (pc := 16) (k := 0) (v := .ref 621) trivial (by decide +kernel) (by rfl) ?_
    refine ev_r_getC (pc := 17) (y := 83) (ci := 13) (f := 32) (fin := 1) (k' := 646) (by decide +kernel) (by decide +kernel) (by exact ev_ob_621) rfl rfl ?_
    refine ev_r_aload_n (pc := 20) (k := 0) (v := .ref 621) trivial (by decide +kernel) (by rfl) ?_
    refine ev_r_getI (pc := 21) (y := 381) (ci := 13) (f := 31) (fin := 0) (by decide +kernel) (by decide +kernel) (by exact ev_ob_621) rfl ?_
    intro x3 hx3
    refine ev_r_iload_n (pc := 24) (k := 1) (v := Int32.ofInt a0) (by decide +kernel) (by rfl) ?_
    refine ev_r_iast (pc := 25) ha0 hx3 (by decide +kernel) (by exact ev_ab_646) ?_
    intro s4
    refine ev_r_aload_n (pc := 26) (k := 0) (v := .ref 621) trivial (by decide +kernel) (by rfl) ?_
    refine ev_r_getC (pc := 27) (y := 86) (ci := 13) (f := 33) (fin := 1) (k' := 647) (by decide +kernel) (by decide +kernel) (by exact ev_ob_621) rfl rfl ?_
    refine ev_r_aload_n (pc := 30) (k := 0) (v := .ref 621) trivial (by decide +kernel) (by rfl) ?_
    refine ev_r_getI (pc := 31) (y := 381) (ci := 13) (f := 31) (fin := 0) (by decide +kernel) (by decide +kernel) (by exact ev_ob_621) rfl ?_
    intro x5 hx5
    refine ev_r_aload_n (pc := 34) (k := 0) (v := .ref 621) trivial (by decide +kernel) (by rfl) ?_
    refine ev_r_getI (pc := 35) (y := 372) (ci := 13) (f := 37) (fin := 0) (by decide +kernel) (by decide +kernel) (by exact ev_ob_621) rfl ?_
    intro x6 hx6
    refine ev_r_iast (pc := 38) hx6 hx5 (by decide +kernel) (by exact ev_ab_647) ?_
    intro s7
    refine ev_r_aload_n (pc := 39) (k := 0) (v := .ref 621) trivial (by decide +kernel) (by rfl) ?_
    refine ev_r_getC (pc := 40) (y := 89) (ci := 13) (f := 34) (fin := 1) (k' := 648) (by decide +kernel) (by decide +kernel) (by exact ev_ob_621) rfl rfl ?_
    refine ev_r_aload_n (pc := 43) (k := 0) (v := .ref 621) trivial (by decide +kernel) (by rfl) ?_
    refine ev_r_getI (pc := 44) (y := 381) (ci := 13) (f := 31) (fin := 0) (by decide +kernel) (by decide +kernel) (by exact ev_ob_621) rfl ?_
    intro x8 hx8
    refine ev_r_aload_n (pc := 47) (k := 0) (v := .ref 621) trivial (by decide +kernel) (by rfl) ?_
    refine ev_r_getI (pc := 48) (y := 369) (ci := 13) (f := 38) (fin := 0) (by decide +kernel) (by decide +kernel) (by exact ev_ob_621) rfl ?_
    intro x9 hx9
    refine ev_r_iast (pc := 51) hx9 hx8 (by decide +kernel) (by exact ev_ab_648) ?_
    intro s10
    refine ev_r_aload_n (pc := 52) (k := 0) (v := .ref 621) trivial (by decide +kernel) (by rfl) ?_
    refine ev_r_getC (pc := 53) (y := 92) (ci := 13) (f := 35) (fin := 1) (k' := 649) (by decide +kernel) (by decide +kernel) (by exact ev_ob_621) rfl rfl ?_
    refine ev_r_aload_n (pc := 56) (k := 0) (v := .ref 621) trivial (by decide +kernel) (by rfl) ?_
    refine ev_r_getI (pc := 57) (y := 381) (ci := 13) (f := 31) (fin := 0) (by decide +kernel) (by decide +kernel) (by exact ev_ob_621) rfl ?_
    intro x11 hx11
    refine ev_r_aload_n (pc := 60) (k := 0) (v := .ref 621) trivial (by decide +kernel) (by rfl) ?_
    refine ev_r_getI (pc := 61) (y := 384) (ci := 13) (f := 40) (fin := 0) (by decide +kernel) (by decide +kernel) (by exact ev_ob_621) rfl ?_
    intro x12 hx12
    refine ev_r_iast (pc := 64) hx12 hx11 (by decide +kernel) (by exact ev_ab_649) ?_
    intro s13
    refine ev_r_aload_n (pc := 65) (k := 0) (v := .ref 621) trivial (by decide +kernel) (by rfl) ?_
    refine ev_r_getC (pc := 66) (y := 95) (ci := 13) (f := 36) (fin := 1) (k' := 650) (by decide +kernel) (by decide +kernel) (by exact ev_ob_621) rfl rfl ?_
    refine ev_r_aload_n (pc := 69) (k := 0) (v := .ref 621) trivial (by decide +kernel) (by rfl) ?_
    refine ev_r_getI (pc := 70) (y := 381) (ci := 13) (f := 31) (fin := 0) (by decide +kernel) (by decide +kernel) (by exact ev_ob_621) rfl ?_
    intro x14 hx14
    refine ev_r_iload_n (pc := 73) (k := 2) (v := Int32.ofInt a1) (by decide +kernel) (by rfl) ?_
    refine ev_r_chk ?_
    intro c16
    refine ev_r_bast (pc := 74) (ty := .boolean) (Or.inr rfl) (ev_nar_bl c16) ha1 hx14 (by decide +kernel) (by exact ev_ab_650) ?_
    intro s15
    refine ev_r_aload_n (pc := 75) (k := 0) (v := .ref 621) trivial (by decide +kernel) (by rfl) ?_
    refine ev_r_dup (pc := 76) rfl (by decide +kernel) ?_
    refine ev_r_getI (pc := 77) (y := 381) (ci := 13) (f := 31) (fin := 0) (by decide +kernel) (by decide +kernel) (by exact ev_ob_621) rfl ?_
    intro x17 hx17
    refine ev_r_iconst (pc := 80) (k := 1) (by decide +kernel) ?_
    refine ev_r_iadd (pc := 81) (by decide +kernel) ?_
    intro x18 hx18
    refine ev_r_putI (pc := 82) (y := 381) (ci := 13) (f := 31) hx18 (by decide +kernel) (by decide +kernel) (by exact ev_ob_621) rfl rfl ?_
    intro s19
    refine ev_r_aload_n (pc := 85) (k := 0) (v := .ref 621) trivial (by decide +kernel) (by rfl) ?_
    refine ev_r_aload_n (pc := 86) (k := 0) (v := .ref 621) trivial (by decide +kernel) (by rfl) ?_
    refine ev_r_bipush (pc := 87) (k := 18) (by decide +kernel) (by decide +kernel) ?_
    refine ev_r_virt (pc := 89) (y := 363) (mi := 235) (na := 1) (k := 621) (as := [.int (Int32.ofInt 18)]) (rest := [.ref 621]) (encc := ev_oI) (Q := ev_rng) (fun x S1 h => jt_235 d (by omega) Q 18 (by decide) s19 x S1 h) (by exact ev_ob_621) (by decide +kernel) (by decide +kernel) (by decide +kernel) (by decide +kernel) rfl (by (try simp only [ev_sum, ev_nv_cat]); first | done | rfl) ?_
    intro x21 s20 hx21
    show ev_w _ _ _ _ _ [.int (Int32.ofInt x21), .ref 621] _ _ _ _
    refine ev_r_putI (pc := 92) (y := 372) (ci := 13) (f := 37) hx21 (by decide +kernel) (by decide +kernel) (by exact ev_ob_621) rfl rfl ?_
    intro s22
    refine ev_r_aload_n (pc := 95) (k := 0) (v := .ref 621) trivial (by decide +kernel) (by rfl) ?_
    refine ev_r_getC (pc := 96) (y := 22) (ci := 13) (f := 7) (fin := 1) (k' := 626) (by decide +kernel) (by decide +kernel) (by exact ev_ob_621) rfl rfl ?_
    refine ev_r_aload_n (pc := 99) (k := 0) (v := .ref 621) trivial (by decide +kernel) (by rfl) ?_
    refine ev_r_virt (pc := 100) (y := 356) (mi := 232) (na := 0) (k := 621) (as := []) (rest := [.ref 626]) (encc := ev_oI) (Q := ev_rng) (fun x S1 h => jt_232 d (by omega) Q   s22 x S1 h) (by exact ev_ob_621) (by decide +kernel) (by decide +kernel) (by decide +kernel) (by decide +kernel) rfl (by (try simp only [ev_sum, ev_nv_cat]); first | done | rfl) ?_
    intro x24 s23 hx24
    show ev_w _ _ _ _ _ [.int (Int32.ofInt x24), .ref 626] _ _ _ _
    refine ev_r_iload_n (pc := 103) (k := 1) (v := Int32.ofInt a0) (by decide +kernel) (by rfl) ?_
    refine ev_r_iadd (pc := 104) (by decide +kernel) ?_
    intro x25 hx25
    refine ev_r_aload_n (pc := 105) (k := 0) (v := .ref 621) trivial (by decide +kernel) (by rfl) ?_
    refine ev_r_getI (pc := 106) (y := 372) (ci := 13) (f := 37) (fin := 0) (by decide +kernel) (by decide +kernel) (by exact ev_ob_621) rfl ?_
    intro x26 hx26
    refine ev_r_iast (pc := 109) hx26 hx25 (by decide +kernel) (by exact ev_ab_626) ?_
    intro s27
    refine ev_r_aload_n (pc := 110) (k := 0) (v := .ref 621) trivial (by decide +kernel) (by rfl) ?_
    refine ev_r_iconst (pc := 111) (k := -1) (by decide +kernel) ?_
    refine ev_r_putI (pc := 112) (y := 369) (ci := 13) (f := 38) (by decide) (by decide +kernel) (by decide +kernel) (by exact ev_ob_621) rfl rfl ?_
    intro s28
    refine ev_r_aload_n (pc := 115) (k := 0) (v := .ref 621) trivial (by decide +kernel) (by rfl) ?_
    refine ev_r_iconst (pc := 116) (k := -1) (by decide +kernel) ?_
    refine ev_r_putI (pc := 117) (y := 375) (ci := 13) (f := 39) (by decide) (by decide +kernel) (by decide +kernel) (by exact ev_ob_621) rfl rfl ?_
    intro s29
    exact ev_r_return (pc := 120) (x := ()) trivial (by decide +kernel) (by decide +kernel) rfl
  · intro c2
    refine ev_r_aload_n (pc := 10) (k := 0) (v := .ref 621) trivial (by decide +kernel) (by rfl) ?_
    refine ev_r_iconst (pc := 11) (k := 1) (by decide +kernel) ?_
    refine ev_r_putI (pc := 12) (y := 352) (ci := 13) (f := 25) (by decide) (by decide +kernel) (by decide +kernel) (by exact ev_ob_621) rfl (ev_fit_bl (by decide : ev_bl 1)) ?_
    intro s30
    exact ev_r_return (pc := 15) (x := ()) trivial (by decide +kernel) (by decide +kernel) rfl
/-- MendBenchModel.shuts()V -/
def jm_240 (Q : Nat)  (S : ev_St) : Option ((Unit) × ev_St) := ev_b (S.1 621 31) fun x1 => ev_ck (x1 - 1) fun x2 => ev_b (ev_pI S 621 31 x2) fun s3 => ev_b (s3.1 621 31) fun x4 => ev_if ((0 : Int) ≤ x4 ∧ x4 < (ev_aln 647 : Int)) (ev_b (s3.1 647 (Int.toNat x4)) fun x5 => ev_b (ev_pI s3 621 37 x5) fun s6 => ev_b (s6.1 621 31) fun x7 => ev_if ((0 : Int) ≤ x7 ∧ x7 < (ev_aln 648 : Int)) (ev_b (s6.1 648 (Int.toNat x7)) fun x8 => ev_b (ev_pI s6 621 38 x8) fun s9 => ev_b (s9.1 621 31) fun x10 => ev_if ((0 : Int) ≤ x10 ∧ x10 < (ev_aln 649 : Int)) (ev_b (s9.1 649 (Int.toNat x10)) fun x11 => ev_b (ev_pI s9 621 40 x11) fun s12 => ev_b (s12.1 621 31) fun x13 => ev_if ((0 : Int) ≤ x13 ∧ x13 < (ev_aln 646 : Int)) (ev_b (s12.1 646 (Int.toNat x13)) fun x14 => ev_b (ev_pI s12 621 39 x14) fun s15 => some ((), s15)))))
theorem jt_240 (d : Nat) (hd : 1 ≤ d) (Q : Nat)   (S : ev_St) (x : Unit) (S' : ev_St) (hJ : jm_240 Q  S = some (x, S')) : ev_Ref d 240 [.ref 621] S (ev_eU x) S' (ev_PU x) := by
  obtain ⟨d, rfl⟩ : ∃ e, d = e + 1 := ⟨d - 1, by omega⟩
  refine ev_ref_of (P := ev_PU) (lv := [(0, .ref 621)]) (by decide +kernel) (by (try simp only [ev_sum, ev_nv_cat]); first | done | rfl) (by (try simp only [lv_args, ev_nv_cat]); first | done | rfl) ?_ x S' hJ
  unfold jm_240
  refine ev_r_aload_n (pc := 0) (k := 0) (v := .ref 621) trivial (by decide +kernel) (by rfl) ?_
  refine ev_r_dup (pc := 1) rfl (by decide +kernel) ?_
  refine ev_r_getI (pc := 2) (y := 381) (ci := 13) (f := 31) (fin := 0) (by decide +kernel) (by decide +kernel) (by exact ev_ob_621) rfl ?_
  intro x1 hx1
  refine ev_r_iconst (pc := 5) (k := 1) (by decide +kernel) ?_
  refine ev_r_isub (pc := 6) (by decide +kernel) ?_
  intro x2 hx2
  refine ev_r_putI (pc := 7) (y := 381) (ci := 13) (f := 31) hx2 (by decide +kernel) (by decide +kernel) (by exact ev_ob_621) rfl rfl ?_
  intro s3
  refine ev_r_aload_n (pc := 10) (k := 0) (v := .ref 621) trivial (by decide +kernel) (by rfl) ?_
  refine ev_r_aload_n (pc := 11) (k := 0) (v := .ref 621) trivial (by decide +kernel) (by rfl) ?_
  refine ev_r_getC (pc := 12) (y := 86) (ci := 13) (f := 33) (fin := 1) (k' := 647) (by decide +kernel) (by decide +kernel) (by exact ev_ob_621) rfl rfl ?_
  refine ev_r_aload_n (pc := 15) (k := 0) (v := .ref 621) trivial (by decide +kernel) (by rfl) ?_
  refine ev_r_getI (pc := 16) (y := 381) (ci := 13) (f := 31) (fin := 0) (by decide +kernel) (by decide +kernel) (by exact ev_ob_621) rfl ?_
  intro x4 hx4
  refine ev_r_iald (pc := 19) hx4 (by decide +kernel) (by exact ev_ab_647) ?_
  intro x5 hx5
  refine ev_r_putI (pc := 20) (y := 372) (ci := 13) (f := 37) hx5 (by decide +kernel) (by decide +kernel) (by exact ev_ob_621) rfl rfl ?_
  intro s6
  refine ev_r_aload_n (pc := 23) (k := 0) (v := .ref 621) trivial (by decide +kernel) (by rfl) ?_
  refine ev_r_aload_n (pc := 24) (k := 0) (v := .ref 621) trivial (by decide +kernel) (by rfl) ?_
  refine ev_r_getC (pc := 25) (y := 89) (ci := 13) (f := 34) (fin := 1) (k' := 648) (by decide +kernel) (by decide +kernel) (by exact ev_ob_621) rfl rfl ?_
  refine ev_r_aload_n (pc := 28) (k := 0) (v := .ref 621) trivial (by decide +kernel) (by rfl) ?_
  refine ev_r_getI (pc := 29) (y := 381) (ci := 13) (f := 31) (fin := 0) (by decide +kernel) (by decide +kernel) (by exact ev_ob_621) rfl ?_
  intro x7 hx7
  refine ev_r_iald (pc := 32) hx7 (by decide +kernel) (by exact ev_ab_648) ?_
  intro x8 hx8
  refine ev_r_putI (pc := 33) (y := 369) (ci := 13) (f := 38) hx8 (by decide +kernel) (by decide +kernel) (by exact ev_ob_621) rfl rfl ?_
  intro s9
  refine ev_r_aload_n (pc := 36) (k := 0) (v := .ref 621) trivial (by decide +kernel) (by rfl) ?_
  refine ev_r_aload_n (pc := 37) (k := 0) (v := .ref 621) trivial (by decide +kernel) (by rfl) ?_
  refine ev_r_getC (pc := 38) (y := 92) (ci := 13) (f := 35) (fin := 1) (k' := 649) (by decide +kernel) (by decide +kernel) (by exact ev_ob_621) rfl rfl ?_
  refine ev_r_aload_n (pc := 41) (k := 0) (v := .ref 621) trivial (by decide +kernel) (by rfl) ?_
  refine ev_r_getI (pc := 42) (y := 381) (ci := 13) (f := 31) (fin := 0) (by decide +kernel) (by decide +kernel) (by exact ev_ob_621) rfl ?_
  intro x10 hx10
  refine ev_r_iald (pc := 45) hx10 (by decide +kernel) (by exact ev_ab_649) ?_
  intro x11 hx11
  refine ev_r_putI (pc := 46) (y := 384) (ci := 13) (f := 40) hx11 (by decide +kernel) (by decide +kernel) (by exact ev_ob_621) rfl rfl ?_
  intro s12
  refine ev_r_aload_n (pc := 49) (k := 0) (v := .ref 621) trivial (by decide +kernel) (by rfl) ?_
  refine ev_r_aload_n (pc := 50) (k := 0) (v := .ref 621) trivial (by decide +kernel) (by rfl) ?_
  refine ev_r_getC (pc := 51) (y := 83) (ci := 13) (f := 32) (fin := 1) (k' := 646) (by decide +kernel) (by decide +kernel) (by exact ev_ob_621) rfl rfl ?_
  refine ev_r_aload_n (pc := 54) (k := 0) (v := .ref 621) trivial (by decide +kernel) (by rfl) ?_
  refine ev_r_getI (pc := 55) (y := 381) (ci := 13) (f := 31) (fin := 0) (by decide +kernel) (by decide +kernel) (by exact ev_ob_621) rfl ?_
  intro x13 hx13
  refine ev_r_iald (pc := 58) hx13 (by decide +kernel) (by exact ev_ab_646) ?_
  intro x14 hx14
  refine ev_r_putI (pc := 59) (y := 375) (ci := 13) (f := 39) hx14 (by decide +kernel) (by decide +kernel) (by exact ev_ob_621) rfl rfl ?_
  intro s15
  exact ev_r_return (pc := 62) (x := ()) trivial (by decide +kernel) (by decide +kernel) rfl
/-- MendBenchModel.parts()V -/
def jm_241 (Q : Nat)  (S : ev_St) : Option ((Unit) × ev_St) := ev_b (S.1 621 31) fun x1 => ev_ck (x1 - 1) fun x2 => ev_if ((0 : Int) ≤ x2 ∧ x2 < (ev_aln 646 : Int)) (ev_b (S.1 646 (Int.toNat x2)) fun x3 => ev_bd (jm_232 Q  S) fun x5 s4 => ev_ck (x5 + x3) fun x6 => ev_if ((0 : Int) ≤ x6 ∧ x6 < (ev_aln 626 : Int)) (ev_b (s4.1 626 (Int.toNat x6)) fun x7 => ev_b (s4.1 621 37) fun x8 => ev_jn (fun (x9 : Int) (x10 : Int) (s14 : ev_St) => ev_bd (jm_232 Q  s14) fun x16 s15 => ev_ck (x16 + x9) fun x17 => ev_if ((0 : Int) ≤ x17 ∧ x17 < (ev_aln 625 : Int)) (ev_b (s15.1 625 (Int.toNat x17)) fun x18 => ev_jn (fun  (s21 : ev_St) => ev_bd (jm_235 Q 18 s21) fun x23 s22 => ev_bd (jm_236 Q  s22) fun _ s24 => ev_bd (jm_232 Q  s24) fun x26 s25 => ev_b (s25.1 621 37) fun x27 => ev_ck (x26 + x27) fun x28 => ev_if ((0 : Int) ≤ x28 ∧ x28 < (ev_aln 627 : Int)) (ev_b (ev_pI s25 627 (Int.toNat x28) x23) fun s29 => ev_b (ev_pI s29 621 37 x23) fun s30 => ev_b (ev_pI s30 621 38 ((-1))) fun s31 => ev_b (ev_pI s31 621 39 ((-1))) fun s32 => some ((), s32))) fun K61 => if x18 ≠ 13 then (K61  s15) else (if x10 = 0 then (K61  s15) else (ev_b (ev_pI s15 621 25 1) fun s35 => K61  s35)))) fun K35 => if x7 = x8 then (K35 x3 0 s4) else (K35 x3 1 s4)))
theorem jt_241 (d : Nat) (hd : 3 ≤ d) (Q : Nat)   (S : ev_St) (x : Unit) (S' : ev_St) (hJ : jm_241 Q  S = some (x, S')) : ev_Ref d 241 [.ref 621] S (ev_eU x) S' (ev_PU x) := by
  obtain ⟨d, rfl⟩ : ∃ e, d = e + 1 := ⟨d - 1, by omega⟩
  refine ev_ref_of (P := ev_PU) (lv := [(0, .ref 621)]) (by decide +kernel) (by (try simp only [ev_sum, ev_nv_cat]); first | done | rfl) (by (try simp only [lv_args, ev_nv_cat]); first | done | rfl) ?_ x S' hJ
  unfold jm_241
  refine ev_r_aload_n (pc := 0) (k := 0) (v := .ref 621) trivial (by decide +kernel) (by rfl) ?_
  refine ev_r_getC (pc := 1) (y := 83) (ci := 13) (f := 32) (fin := 1) (k' := 646) (by decide +kernel) (by decide +kernel) (by exact ev_ob_621) rfl rfl ?_
  refine ev_r_aload_n (pc := 4) (k := 0) (v := .ref 621) trivial (by decide +kernel) (by rfl) ?_
  refine ev_r_getI (pc := 5) (y := 381) (ci := 13) (f := 31) (fin := 0) (by decide +kernel) (by decide +kernel) (by exact ev_ob_621) rfl ?_
  intro x1 hx1
  refine ev_r_iconst (pc := 8) (k := 1) (by decide +kernel) ?_
  refine ev_r_isub (pc := 9) (by decide +kernel) ?_
  intro x2 hx2
  refine ev_r_iald (pc := 10) hx2 (by decide +kernel) (by exact ev_ab_646) ?_
  intro x3 hx3
  refine ev_r_istore_n (pc := 11) (k := 1) (by decide +kernel) (by decide +kernel) rfl ?_
  refine ev_r_aload_n (pc := 12) (k := 0) (v := .ref 621) trivial (by decide +kernel) (by exact (ev_lk_st1 (by rfl) (by decide) rfl)) ?_
  refine ev_r_getC (pc := 13) (y := 22) (ci := 13) (f := 7) (fin := 1) (k' := 626) (by decide +kernel) (by decide +kernel) (by exact ev_ob_621) rfl rfl ?_
  refine ev_r_aload_n (pc := 16) (k := 0) (v := .ref 621) trivial (by decide +kernel) (by exact (ev_lk_st1 (by rfl) (by decide) rfl)) ?_
  refine ev_r_virt (pc := 17) (y := 356) (mi := 232) (na := 0) (k := 621) (as := []) (rest := [.ref 626]) (encc := ev_oI) (Q := ev_rng) (fun x S1 h => jt_232 d (by omega) Q   S x S1 h) (by exact ev_ob_621) (by decide +kernel) (by decide +kernel) (by decide +kernel) (by decide +kernel) rfl (by (try simp only [ev_sum, ev_nv_cat]); first | done | rfl) ?_
  intro x5 s4 hx5
  show ev_w _ _ _ _ _ [.int (Int32.ofInt x5), .ref 626] _ _ _ _
  refine ev_r_iload_n (pc := 20) (k := 1) (v := Int32.ofInt x3) (by decide +kernel) (by exact ev_lk_st1_self) ?_
  refine ev_r_iadd (pc := 21) (by decide +kernel) ?_
  intro x6 hx6
  refine ev_r_iald (pc := 22) hx6 (by decide +kernel) (by exact ev_ab_626) ?_
  intro x7 hx7
  refine ev_r_aload_n (pc := 23) (k := 0) (v := .ref 621) trivial (by decide +kernel) (by exact (ev_lk_st1 (by rfl) (by decide) rfl)) ?_
  refine ev_r_getI (pc := 24) (y := 372) (ci := 13) (f := 37) (fin := 0) (by decide +kernel) (by decide +kernel) (by exact ev_ob_621) rfl ?_
  intro x8 hx8
  refine ev_r_jn (Q := fun K => ∀ (x9 : Int) (hx9 : ev_rng x9), ∀ (x10 : Int) (hx10 : ev_rng x10), ∀ (s14 : ev_St) (w11 : List (Nat × Value)), ev_lk w11 0 = some (.ref 621) → ev_lk w11 1 = some (.int (Int32.ofInt x9)) → ev_w none (ev_Mof 241) d 35 w11 [.int (Int32.ofInt x10)] s14 (K x9 x10 s14) ev_eU ev_PU) ?_ ?_
  · intro x9 hx9 x10 hx10 s14 w11 e12 e13
    refine ev_r_istore_n (pc := 35) (k := 2) (by decide +kernel) (by decide +kernel) rfl ?_
    refine ev_r_aload_n (pc := 36) (k := 0) (v := .ref 621) trivial (by decide +kernel) (by exact (ev_l1 e12 (by decide) (by decide))) ?_
    refine ev_r_getC (pc := 37) (y := 19) (ci := 13) (f := 6) (fin := 1) (k' := 625) (by decide +kernel) (by decide +kernel) (by exact ev_ob_621) rfl rfl ?_
    refine ev_r_aload_n (pc := 40) (k := 0) (v := .ref 621) trivial (by decide +kernel) (by exact (ev_l1 e12 (by decide) (by decide))) ?_
    refine ev_r_virt (pc := 41) (y := 356) (mi := 232) (na := 0) (k := 621) (as := []) (rest := [.ref 625]) (encc := ev_oI) (Q := ev_rng) (fun x S1 h => jt_232 d (by omega) Q   s14 x S1 h) (by exact ev_ob_621) (by decide +kernel) (by decide +kernel) (by decide +kernel) (by decide +kernel) rfl (by (try simp only [ev_sum, ev_nv_cat]); first | done | rfl) ?_
    intro x16 s15 hx16
    show ev_w _ _ _ _ _ [.int (Int32.ofInt x16), .ref 625] _ _ _ _
    refine ev_r_iload_n (pc := 44) (k := 1) (v := Int32.ofInt x9) (by decide +kernel) (by exact (ev_lk_st1 e13 (by decide) rfl)) ?_
    refine ev_r_iadd (pc := 45) (by decide +kernel) ?_
    intro x17 hx17
    refine ev_r_iald (pc := 46) hx17 (by decide +kernel) (by exact ev_ab_625) ?_
    intro x18 hx18
    refine ev_r_bipush (pc := 47) (k := 13) (by decide +kernel) (by decide +kernel) ?_
    refine ev_r_jn (Q := fun K => ∀ (s21 : ev_St) (w19 : List (Nat × Value)), ev_lk w19 0 = some (.ref 621) → ev_w none (ev_Mof 241) d 61 w19 [] s21 (K  s21) ev_eU ev_PU) ?_ ?_
    · intro  s21 w19 e20
      refine ev_r_aload_n (pc := 61) (k := 0) (v := .ref 621) trivial (by decide +kernel) (by exact e20) ?_
      refine ev_r_bipush (pc := 62) (k := 18) (by decide +kernel) (by decide +kernel) ?_
      refine ev_r_virt (pc := 64) (y := 363) (mi := 235) (na := 1) (k := 621) (as := [.int (Int32.ofInt 18)]) (rest := []) (encc := ev_oI) (Q := ev_rng) (fun x S1 h => jt_235 d (by omega) Q 18 (by decide) s21 x S1 h) (by exact ev_ob_621) (by decide +kernel) (by decide +kernel) (by decide +kernel) (by decide +kernel) rfl (by (try simp only [ev_sum, ev_nv_cat]); first | done | rfl) ?_
      intro x23 s22 hx23
      show ev_w _ _ _ _ _ [.int (Int32.ofInt x23)] _ _ _ _
      refine ev_r_istore_n (pc := 67) (k := 3) (by decide +kernel) (by decide +kernel) rfl ?_
      refine ev_r_aload_n (pc := 68) (k := 0) (v := .ref 621) trivial (by decide +kernel) (by exact (ev_l1 e20 (by decide) (by decide))) ?_
      refine ev_r_virt (pc := 69) (y := 366) (mi := 236) (na := 0) (k := 621) (as := []) (rest := []) (encc := ev_oU) (Q := ev_PU) (fun x S1 h => jt_236 d (by omega) Q   s22 x S1 h) (by exact ev_ob_621) (by decide +kernel) (by decide +kernel) (by decide +kernel) (by decide +kernel) rfl (by (try simp only [ev_sum, ev_nv_cat]); first | done | rfl) ?_
      intro _ s24 _
      show ev_w _ _ _ _ _ [] _ _ _ _
      refine ev_r_aload_n (pc := 72) (k := 0) (v := .ref 621) trivial (by decide +kernel) (by exact (ev_l1 e20 (by decide) (by decide))) ?_
      refine ev_r_getC (pc := 73) (y := 25) (ci := 13) (f := 8) (fin := 1) (k' := 627) (by decide +kernel) (by decide +kernel) (by exact ev_ob_621) rfl rfl ?_
      refine ev_r_aload_n (pc := 76) (k := 0) (v := .ref 621) trivial (by decide +kernel) (by exact (ev_l1 e20 (by decide) (by decide))) ?_
      refine ev_r_virt (pc := 77) (y := 356) (mi := 232) (na := 0) (k := 621) (as := []) (rest := [.ref 627]) (encc := ev_oI) (Q := ev_rng) (fun x S1 h => jt_232 d (by omega) Q   s24 x S1 h) (by exact ev_ob_621) (by decide +kernel) (by decide +kernel) (by decide +kernel) (by decide +kernel) rfl (by (try simp only [ev_sum, ev_nv_cat]); first | done | rfl) ?_
      intro x26 s25 hx26
      show ev_w _ _ _ _ _ [.int (Int32.ofInt x26), .ref 627] _ _ _ _
      refine ev_r_aload_n (pc := 80) (k := 0) (v := .ref 621) trivial (by decide +kernel) (by exact (ev_l1 e20 (by decide) (by decide))) ?_
      refine ev_r_getI (pc := 81) (y := 372) (ci := 13) (f := 37) (fin := 0) (by decide +kernel) (by decide +kernel) (by exact ev_ob_621) rfl ?_
      intro x27 hx27
      refine ev_r_iadd (pc := 84) (by decide +kernel) ?_
      intro x28 hx28
      refine ev_r_iload_n (pc := 85) (k := 3) (v := Int32.ofInt x23) (by decide +kernel) (by exact ev_lk_st1_self) ?_
      refine ev_r_iast (pc := 86) hx23 hx28 (by decide +kernel) (by exact ev_ab_627) ?_
      intro s29
      refine ev_r_aload_n (pc := 87) (k := 0) (v := .ref 621) trivial (by decide +kernel) (by exact (ev_l1 e20 (by decide) (by decide))) ?_
      refine ev_r_iload_n (pc := 88) (k := 3) (v := Int32.ofInt x23) (by decide +kernel) (by exact ev_lk_st1_self) ?_
      refine ev_r_putI (pc := 89) (y := 372) (ci := 13) (f := 37) hx23 (by decide +kernel) (by decide +kernel) (by exact ev_ob_621) rfl rfl ?_
      intro s30
      refine ev_r_aload_n (pc := 92) (k := 0) (v := .ref 621) trivial (by decide +kernel) (by exact (ev_l1 e20 (by decide) (by decide))) ?_
      refine ev_r_iconst (pc := 93) (k := -1) (by decide +kernel) ?_
      refine ev_r_putI (pc := 94) (y := 369) (ci := 13) (f := 38) (by decide) (by decide +kernel) (by decide +kernel) (by exact ev_ob_621) rfl rfl ?_
      intro s31
      refine ev_r_aload_n (pc := 97) (k := 0) (v := .ref 621) trivial (by decide +kernel) (by exact (ev_l1 e20 (by decide) (by decide))) ?_
      refine ev_r_iconst (pc := 98) (k := -1) (by decide +kernel) ?_
      refine ev_r_putI (pc := 99) (y := 375) (ci := 13) (f := 39) (by decide) (by decide +kernel) (by decide +kernel) (by exact ev_ob_621) rfl rfl ?_
      intro s32
      exact ev_r_return (pc := 102) (x := ()) trivial (by decide +kernel) (by decide +kernel) rfl
    · intro K61 hK61
      refine ev_r_icmp (pc := 49) (q := .ne) (o := 12) (t := 61) (c := x18 ≠ 13) (by decide +kernel) (ev_k_ne hx18 (by decide)) (by decide +kernel) ?_ ?_
      · intro c33
        exact hK61  s15 _ (by exact (ev_l1 e12 (by decide) (by decide)))
      · intro c33
        refine ev_r_iload_n (pc := 52) (k := 2) (v := Int32.ofInt x10) (by decide +kernel) (by exact ev_lk_st1_self) ?_
        refine ev_r_if (pc := 53) (q := .eq) (o := 8) (t := 61) (c := x10 = 0) (by decide +kernel) (ev_k_eq hx10 ev_rng0) (by decide +kernel) ?_ ?_
        · intro c34
          exact hK61  s15 _ (by exact (ev_l1 e12 (by decide) (by decide)))
        · intro c34
          refine ev_r_aload_n (pc := 56) (k := 0) (v := .ref 621) trivial (by decide +kernel) (by exact (ev_l1 e12 (by decide) (by decide))) ?_
          refine ev_r_iconst (pc := 57) (k := 1) (by decide +kernel) ?_
          refine ev_r_putI (pc := 58) (y := 352) (ci := 13) (f := 25) (by decide) (by decide +kernel) (by decide +kernel) (by exact ev_ob_621) rfl (ev_fit_bl (by decide : ev_bl 1)) ?_
          intro s35
          exact hK61  s35 _ (by exact (ev_l1 e12 (by decide) (by decide)))
  · intro K35 hK35
    refine ev_r_icmp (pc := 27) (q := .eq) (o := 7) (t := 34) (c := x7 = x8) (by decide +kernel) (ev_k_eq hx7 hx8) (by decide +kernel) ?_ ?_
    · intro c36
      refine ev_r_iconst (pc := 34) (k := 0) (by decide +kernel) ?_
      exact hK35 x3 hx3 0 (by decide) s4 _ (by exact (ev_lk_st1 (by rfl) (by decide) rfl)) (by exact ev_lk_st1_self)
    · intro c36
      refine ev_r_iconst (pc := 30) (k := 1) (by decide +kernel) ?_
      refine ev_r_goto (pc := 31) (o := 4) (t := 35) (by decide +kernel) (by decide +kernel) ?_
      exact hK35 x3 hx3 1 (by decide) s4 _ (by exact (ev_lk_st1 (by rfl) (by decide) rfl)) (by exact ev_lk_st1_self)
/-- MendBenchModel.oneOf(I)J -/
def jm_242 (Q : Nat) (a0 : Int) (S : ev_St) : Option ((Int64) × ev_St) := ev_jn (fun (x1 : Int) (s3 : ev_St) => if 64 ≤ x1 then (some ((Int64.ofNat ((0 : Fin 2) : Nat)), s3)) else (ev_b (ev_lshl ((Int64.ofNat ((1 : Fin 2) : Nat))) x1) fun y5 => some (y5, s3))) fun K14 => if a0 ≠ 10 then (ev_ck (a0 - 31) fun x7 => K14 x7 S) else (K14 0 S)
theorem jt_242 (d : Nat) (hd : 1 ≤ d) (Q : Nat) (a0 : Int) (ha0 : ev_rng a0) (S : ev_St) (x : Int64) (S' : ev_St) (hJ : jm_242 Q a0 S = some (x, S')) : ev_Ref d 242 [.int (Int32.ofInt a0)] S (ev_eL x) S' (ev_PU x) := by
  obtain ⟨d, rfl⟩ : ∃ e, d = e + 1 := ⟨d - 1, by omega⟩
  refine ev_ref_of (P := ev_PU) (lv := [(0, .int (Int32.ofInt a0))]) (by decide +kernel) (by (try simp only [ev_sum, ev_nv_cat]); first | done | rfl) (by (try simp only [lv_args, ev_nv_cat]); first | done | rfl) ?_ x S' hJ
  unfold jm_242
  refine ev_r_iload_n (pc := 0) (k := 0) (v := Int32.ofInt a0) (by decide +kernel) (by rfl) ?_
  refine ev_r_bipush (pc := 1) (k := 10) (by decide +kernel) (by decide +kernel) ?_
  refine ev_r_jn (Q := fun K => ∀ (x1 : Int) (hx1 : ev_rng x1), ∀ (s3 : ev_St) (w2 : List (Nat × Value)), ev_w none (ev_Mof 242) d 14 w2 [.int (Int32.ofInt x1)] s3 (K x1 s3) ev_eL ev_PU) ?_ ?_
  · intro x1 hx1 s3 w2 
    refine ev_r_istore_n (pc := 14) (k := 1) (by decide +kernel) (by decide +kernel) rfl ?_
    refine ev_r_iload_n (pc := 15) (k := 1) (v := Int32.ofInt x1) (by decide +kernel) (by exact ev_lk_st1_self) ?_
    refine ev_r_bipush (pc := 16) (k := 64) (by decide +kernel) (by decide +kernel) ?_
    refine ev_r_icmp (pc := 18) (q := .ge) (o := 9) (t := 27) (c := 64 ≤ x1) (by decide +kernel) (ev_k_ge hx1 (by decide)) (by decide +kernel) ?_ ?_
    · intro c4
      refine ev_r_lconst (pc := 27) (c := 0) (by decide +kernel) ?_
      exact ev_r_lreturn (pc := 28) (x := (Int64.ofNat ((0 : Fin 2) : Nat))) trivial (by decide +kernel) (by decide +kernel) rfl
    · intro c4
      refine ev_r_lconst (pc := 21) (c := 1) (by decide +kernel) ?_
      refine ev_r_iload_n (pc := 22) (k := 1) (v := Int32.ofInt x1) (by decide +kernel) (by exact ev_lk_st1_self) ?_
      refine ev_r_toL (pc := 23) (i := .lshl) (len := 1) (pc' := 24) (by decide +kernel) rfl ?_
      intro y5
      refine ev_r_goto (pc := 24) (o := 4) (t := 28) (by decide +kernel) (by decide +kernel) ?_
      exact ev_r_lreturn (pc := 28) (x := y5) trivial (by decide +kernel) (by decide +kernel) rfl
  · intro K14 hK14
    refine ev_r_icmp (pc := 3) (q := .ne) (o := 7) (t := 10) (c := a0 ≠ 10) (by decide +kernel) (ev_k_ne ha0 (by decide)) (by decide +kernel) ?_ ?_
    · intro c6
      refine ev_r_iload_n (pc := 10) (k := 0) (v := Int32.ofInt a0) (by decide +kernel) (by rfl) ?_
      refine ev_r_bipush (pc := 11) (k := 31) (by decide +kernel) (by decide +kernel) ?_
      refine ev_r_isub (pc := 13) (by decide +kernel) ?_
      intro x7 hx7
      exact hK14 x7 hx7 S _ 
    · intro c6
      refine ev_r_iconst (pc := 6) (k := 0) (by decide +kernel) ?_
      refine ev_r_goto (pc := 7) (o := 7) (t := 14) (by decide +kernel) (by decide +kernel) ?_
      exact hK14 0 (by decide) S _ 
/-- MendBenchModel.twoOf(I)J -/
def jm_243 (Q : Nat) (a0 : Int) (S : ev_St) : Option ((Int64) × ev_St) := ev_jn (fun (x1 : Int) (s3 : ev_St) => if 64 ≤ x1 then (ev_ck (x1 - 64) fun x5 => ev_b (ev_lshl ((Int64.ofNat ((1 : Fin 2) : Nat))) x5) fun y6 => some (y6, s3)) else (some ((Int64.ofNat ((0 : Fin 2) : Nat)), s3))) fun K14 => if a0 ≠ 10 then (ev_ck (a0 - 31) fun x8 => K14 x8 S) else (K14 0 S)
theorem jt_243 (d : Nat) (hd : 1 ≤ d) (Q : Nat) (a0 : Int) (ha0 : ev_rng a0) (S : ev_St) (x : Int64) (S' : ev_St) (hJ : jm_243 Q a0 S = some (x, S')) : ev_Ref d 243 [.int (Int32.ofInt a0)] S (ev_eL x) S' (ev_PU x) := by
  obtain ⟨d, rfl⟩ : ∃ e, d = e + 1 := ⟨d - 1, by omega⟩
  refine ev_ref_of (P := ev_PU) (lv := [(0, .int (Int32.ofInt a0))]) (by decide +kernel) (by (try simp only [ev_sum, ev_nv_cat]); first | done | rfl) (by (try simp only [lv_args, ev_nv_cat]); first | done | rfl) ?_ x S' hJ
  unfold jm_243
  refine ev_r_iload_n (pc := 0) (k := 0) (v := Int32.ofInt a0) (by decide +kernel) (by rfl) ?_
  refine ev_r_bipush (pc := 1) (k := 10) (by decide +kernel) (by decide +kernel) ?_
  refine ev_r_jn (Q := fun K => ∀ (x1 : Int) (hx1 : ev_rng x1), ∀ (s3 : ev_St) (w2 : List (Nat × Value)), ev_w none (ev_Mof 243) d 14 w2 [.int (Int32.ofInt x1)] s3 (K x1 s3) ev_eL ev_PU) ?_ ?_
  · intro x1 hx1 s3 w2 
    refine ev_r_istore_n (pc := 14) (k := 1) (by decide +kernel) (by decide +kernel) rfl ?_
    refine ev_r_iload_n (pc := 15) (k := 1) (v := Int32.ofInt x1) (by decide +kernel) (by exact ev_lk_st1_self) ?_
    refine ev_r_bipush (pc := 16) (k := 64) (by decide +kernel) (by decide +kernel) ?_
    refine ev_r_icmp (pc := 18) (q := .ge) (o := 7) (t := 25) (c := 64 ≤ x1) (by decide +kernel) (ev_k_ge hx1 (by decide)) (by decide +kernel) ?_ ?_
    · intro c4
      refine ev_r_lconst (pc := 25) (c := 1) (by decide +kernel) ?_
      refine ev_r_iload_n (pc := 26) (k := 1) (v := Int32.ofInt x1) (by decide +kernel) (by exact ev_lk_st1_self) ?_
      refine ev_r_bipush (pc := 27) (k := 64) (by decide +kernel) (by decide +kernel) ?_
      refine ev_r_isub (pc := 29) (by decide +kernel) ?_
      intro x5 hx5
      refine ev_r_toL (pc := 30) (i := .lshl) (len := 1) (pc' := 31) (by decide +kernel) rfl ?_
      intro y6
      exact ev_r_lreturn (pc := 31) (x := y6) trivial (by decide +kernel) (by decide +kernel) rfl
    · intro c4
      refine ev_r_lconst (pc := 21) (c := 0) (by decide +kernel) ?_
      refine ev_r_goto (pc := 22) (o := 9) (t := 31) (by decide +kernel) (by decide +kernel) ?_
      exact ev_r_lreturn (pc := 31) (x := (Int64.ofNat ((0 : Fin 2) : Nat))) trivial (by decide +kernel) (by decide +kernel) rfl
  · intro K14 hK14
    refine ev_r_icmp (pc := 3) (q := .ne) (o := 7) (t := 10) (c := a0 ≠ 10) (by decide +kernel) (ev_k_ne ha0 (by decide)) (by decide +kernel) ?_ ?_
    · intro c7
      refine ev_r_iload_n (pc := 10) (k := 0) (v := Int32.ofInt a0) (by decide +kernel) (by rfl) ?_
      refine ev_r_bipush (pc := 11) (k := 31) (by decide +kernel) (by decide +kernel) ?_
      refine ev_r_isub (pc := 13) (by decide +kernel) ?_
      intro x8 hx8
      exact hK14 x8 hx8 S _ 
    · intro c7
      refine ev_r_iconst (pc := 6) (k := 0) (by decide +kernel) ?_
      refine ev_r_goto (pc := 7) (o := 7) (t := 14) (by decide +kernel) (by decide +kernel) ?_
      exact hK14 0 (by decide) S _ 
/-- MendBenchModel.isOf(JJI)Z -/
def jm_244 (Q : Nat) (a0 : Int64) (a1 : Int64) (a2 : Int) (S : ev_St) : Option ((Int) × ev_St) := ev_bd (jm_242 Q a2 S) fun y2 s1 => ev_b (a0 &&& y2) fun y3 => ev_b (ev_lcmp y3 ((Int64.ofNat ((0 : Fin 2) : Nat)))) fun x4 => if x4 ≠ 0 then (some (1, s1)) else (ev_bd (jm_243 Q a2 s1) fun y7 s6 => ev_b (a1 &&& y7) fun y8 => ev_b (ev_lcmp y8 ((Int64.ofNat ((0 : Fin 2) : Nat)))) fun x9 => if x9 = 0 then (some (0, s6)) else (some (1, s6)))
theorem jt_244 (d : Nat) (hd : 2 ≤ d) (Q : Nat) (a0 : Int64) (a1 : Int64) (a2 : Int) (ha2 : ev_rng a2) (S : ev_St) (x : Int) (S' : ev_St) (hJ : jm_244 Q a0 a1 a2 S = some (x, S')) : ev_Ref d 244 [.long a0, .long a1, .int (Int32.ofInt a2)] S (ev_eI x) S' (ev_bl x) := by
  obtain ⟨d, rfl⟩ : ∃ e, d = e + 1 := ⟨d - 1, by omega⟩
  refine ev_ref_of (P := ev_bl) (lv := [(0, .long a0), (2, .long a1), (4, .int (Int32.ofInt a2))]) (by decide +kernel) (by (try simp only [ev_sum, ev_nv_cat]); first | done | rfl) (by (try simp only [lv_args, ev_nv_cat]); first | done | rfl) ?_ x S' hJ
  unfold jm_244
  refine ev_r_lload_n (pc := 0) (k := 0) (v := a0) (by decide +kernel) (by rfl) ?_
  refine ev_r_iload (pc := 1) (k := 4) (v := Int32.ofInt a2) (by decide +kernel) (by rfl) ?_
  refine ev_r_stat (pc := 3) (y := 387) (kind := 2) (mi := 242) (na := 1) (as := [.int (Int32.ofInt a2)]) (rest := [.long a0]) (encc := ev_oL) (Q := ev_PU) (fun x S1 h => jt_242 d (by omega) Q a2 ha2 S x S1 h) (Or.inl rfl) (by decide +kernel) (by decide +kernel) (by decide +kernel) (by decide +kernel) rfl (by (try simp only [ev_sum, ev_nv_cat]); first | done | rfl) ?_
  intro y2 s1 _
  show ev_w _ _ _ _ _ [.long y2, .long a0] _ _ _ _
  refine ev_r_toL (pc := 6) (i := .land) (len := 1) (pc' := 7) (by decide +kernel) rfl ?_
  intro y3
  refine ev_r_lconst (pc := 7) (c := 0) (by decide +kernel) ?_
  refine ev_r_toI (pc := 8) (i := .lcmp) (len := 1) (pc' := 9) (by decide +kernel) rfl ?_
  intro x4 hx4
  refine ev_r_if (pc := 9) (q := .ne) (o := 15) (t := 24) (c := x4 ≠ 0) (by decide +kernel) (ev_k_ne hx4 ev_rng0) (by decide +kernel) ?_ ?_
  · intro c5
    refine ev_r_iconst (pc := 24) (k := 1) (by decide +kernel) ?_
    refine ev_r_goto (pc := 25) (o := 4) (t := 29) (by decide +kernel) (by decide +kernel) ?_
    exact ev_r_ireturn (pc := 29) (x := 1) (v := Int32.ofInt 1) (ty := .boolean) (by decide : ev_bl 1) (by decide +kernel) (by decide +kernel) (ev_ret_bl (by decide : ev_bl 1)) rfl
  · intro c5
    refine ev_r_lload_n (pc := 12) (k := 2) (v := a1) (by decide +kernel) (by rfl) ?_
    refine ev_r_iload (pc := 13) (k := 4) (v := Int32.ofInt a2) (by decide +kernel) (by rfl) ?_
    refine ev_r_stat (pc := 15) (y := 391) (kind := 2) (mi := 243) (na := 1) (as := [.int (Int32.ofInt a2)]) (rest := [.long a1]) (encc := ev_oL) (Q := ev_PU) (fun x S1 h => jt_243 d (by omega) Q a2 ha2 s1 x S1 h) (Or.inl rfl) (by decide +kernel) (by decide +kernel) (by decide +kernel) (by decide +kernel) rfl (by (try simp only [ev_sum, ev_nv_cat]); first | done | rfl) ?_
    intro y7 s6 _
    show ev_w _ _ _ _ _ [.long y7, .long a1] _ _ _ _
    refine ev_r_toL (pc := 18) (i := .land) (len := 1) (pc' := 19) (by decide +kernel) rfl ?_
    intro y8
    refine ev_r_lconst (pc := 19) (c := 0) (by decide +kernel) ?_
    refine ev_r_toI (pc := 20) (i := .lcmp) (len := 1) (pc' := 21) (by decide +kernel) rfl ?_
    intro x9 hx9
    refine ev_r_if (pc := 21) (q := .eq) (o := 7) (t := 28) (c := x9 = 0) (by decide +kernel) (ev_k_eq hx9 ev_rng0) (by decide +kernel) ?_ ?_
    · intro c10
      refine ev_r_iconst (pc := 28) (k := 0) (by decide +kernel) ?_
      exact ev_r_ireturn (pc := 29) (x := 0) (v := Int32.ofInt 0) (ty := .boolean) (by decide : ev_bl 0) (by decide +kernel) (by decide +kernel) (ev_ret_bl (by decide : ev_bl 0)) rfl
    · intro c10
      refine ev_r_iconst (pc := 24) (k := 1) (by decide +kernel) ?_
      refine ev_r_goto (pc := 25) (o := 4) (t := 29) (by decide +kernel) (by decide +kernel) ?_
      exact ev_r_ireturn (pc := 29) (x := 1) (v := Int32.ofInt 1) (ty := .boolean) (by decide : ev_bl 1) (by decide +kernel) (by decide +kernel) (ev_ret_bl (by decide : ev_bl 1)) rfl
def jb_245_13 (Q : Nat) (a1 : Int) (a2 : Int)  (K13 : Int → ev_St → Option ((Unit) × ev_St)) (x3 : Int) (s9 : ev_St) : Option ((Unit) × ev_St) := if a1 < x3 then (some ((), s9)) else (ev_bd (jm_223 Q x3 s9) fun x12 s11 => ev_jn (fun  (s18 : ev_St) => ev_ck (x3 + 1) fun x19 => K13 x19 s18) fun K89 => if x12 = 0 then (K89  s11) else (ev_b (s11.2.1 621 41) fun y21 => ev_bd (jm_242 Q x3 s11) fun y23 s22 => ev_jn (fun (y26 : Int64) (y25 : Int64) (y24 : Int64) (s32 : ev_St) => ev_b (y25 ||| y26) fun y33 => ev_b (y24 ||| y33) fun y34 => ev_b (ev_pL s32 621 41 y34) fun s35 => ev_b (s35.2.1 621 42) fun y36 => ev_bd (jm_243 Q x3 s35) fun y38 s37 => ev_jn (fun (y41 : Int64) (y40 : Int64) (y39 : Int64) (s47 : ev_St) => ev_b (y40 ||| y41) fun y48 => ev_b (y39 ||| y48) fun y49 => ev_b (ev_pL s47 621 42 y49) fun s50 => K89  s50) fun K84 => if a2 = 0 then (K84 ((Int64.ofNat ((0 : Fin 2) : Nat))) y38 y36 s37) else (ev_bd (jm_229 Q x3 s37) fun x53 s52 => ev_bd (jm_243 Q x53 s52) fun y55 s54 => K84 y55 y38 y36 s54)) fun K53 => if a2 = 0 then (K53 ((Int64.ofNat ((0 : Fin 2) : Nat))) y23 y21 s22) else (ev_bd (jm_229 Q x3 s22) fun x58 s57 => ev_bd (jm_242 Q x58 s57) fun y60 s59 => K53 y60 y23 y21 s59)))
def jl_245_13 (Q : Nat) (a1 : Int) (a2 : Int)  : Nat → Int → ev_St → Option ((Unit) × ev_St)
  | 0 => fun _ _ => none
  | q + 1 => jb_245_13 Q a1 a2  (jl_245_13 Q a1 a2  q)
theorem jbt_245_13 (d : Nat) (hd : 5 ≤ d + 1) (Q : Nat) (a1 : Int) (a2 : Int) (ha1 : ev_rng a1) (ha2 : ev_rng a2)   (K13 : Int → ev_St → Option ((Unit) × ev_St)) (hK13 : ∀ (x3 : Int) (hx3 : ev_rng x3), ∀ (s9 : ev_St) (w4 : List (Nat × Value)), ev_lk w4 0 = some (.ref 621) → ev_lk w4 2 = some (.int (Int32.ofInt a1)) → ev_lk w4 3 = some (.int (Int32.ofInt a2)) → ev_lk w4 4 = some (.int (Int32.ofInt x3)) → ev_w none (ev_Mof 245) d 13 w4 [] s9 (K13 x3 s9) ev_eU ev_PU) : ∀ (x3 : Int) (hx3 : ev_rng x3), ∀ (s9 : ev_St) (w4 : List (Nat × Value)), ev_lk w4 0 = some (.ref 621) → ev_lk w4 2 = some (.int (Int32.ofInt a1)) → ev_lk w4 3 = some (.int (Int32.ofInt a2)) → ev_lk w4 4 = some (.int (Int32.ofInt x3)) → ev_w none (ev_Mof 245) d 13 w4 [] s9 (jb_245_13 Q a1 a2  K13 x3 s9) ev_eU ev_PU := by
  intro x3 hx3 s9 w4 e5 e6 e7 e8
  unfold jb_245_13
  refine ev_r_iload (pc := 13) (k := 4) (v := Int32.ofInt x3) (by decide +kernel) (by exact e8) ?_
  refine ev_r_iload_n (pc := 15) (k := 2) (v := Int32.ofInt a1) (by decide +kernel) (by exact e6) ?_
  refine ev_r_icmp (pc := 16) (q := .gt) (o := 79) (t := 95) (c := a1 < x3) (by decide +kernel) (ev_k_gt hx3 ha1) (by decide +kernel) ?_ ?_
  · intro c10
    exact ev_r_return (pc := 95) (x := ()) trivial (by decide +kernel) (by decide +kernel) rfl
  · intro c10
    refine ev_r_iload (pc := 19) (k := 4) (v := Int32.ofInt x3) (by decide +kernel) (by exact e8) ?_
    refine ev_r_stat (pc := 21) (y := 339) (kind := 2) (mi := 223) (na := 1) (as := [.int (Int32.ofInt x3)]) (rest := []) (encc := ev_oI) (Q := ev_bl) (fun x S1 h => jt_223 d (by omega) Q x3 hx3 s9 x S1 h) (Or.inl rfl) (by decide +kernel) (by decide +kernel) (by decide +kernel) (by decide +kernel) rfl (by (try simp only [ev_sum, ev_nv_cat]); first | done | rfl) ?_
    intro x12 s11 hx12
    replace hx12 := ev_bl_rng hx12
    show ev_w _ _ _ _ _ [.int (Int32.ofInt x12)] _ _ _ _
    refine ev_r_jn (Q := fun K => ∀ (s18 : ev_St) (w13 : List (Nat × Value)), ev_lk w13 0 = some (.ref 621) → ev_lk w13 2 = some (.int (Int32.ofInt a1)) → ev_lk w13 3 = some (.int (Int32.ofInt a2)) → ev_lk w13 4 = some (.int (Int32.ofInt x3)) → ev_w none (ev_Mof 245) d 89 w13 [] s18 (K  s18) ev_eU ev_PU) ?_ ?_
    · intro  s18 w13 e14 e15 e16 e17
      refine ev_r_iinc (pc := 89) (k := 4) (c := 1) (x := x3) (by decide +kernel) (by decide +kernel) (by exact e17) (fun _ => rfl) ?_
      intro x19 hx19
      refine ev_r_goto (pc := 92) (o := (-79)) (t := 13) (by decide +kernel) (by decide +kernel) ?_
      exact hK13 x19 hx19 s18 _ (by exact (ev_l1 e14 (by decide) (by decide))) (by exact (ev_l1 e15 (by decide) (by decide))) (by exact (ev_lk_st1 e16 (by decide) rfl)) (by exact ev_lk_st1_self)
    · intro K89 hK89
      refine ev_r_if (pc := 24) (q := .eq) (o := 65) (t := 89) (c := x12 = 0) (by decide +kernel) (ev_k_eq hx12 ev_rng0) (by decide +kernel) ?_ ?_
      · intro c20
        exact hK89  s11 _ (by exact e5) (by exact e6) (by exact e7) (by exact e8)
      · intro c20
        refine ev_r_aload_n (pc := 27) (k := 0) (v := .ref 621) trivial (by decide +kernel) (by exact e5) ?_
        refine ev_r_dup (pc := 28) rfl (by decide +kernel) ?_
        refine ev_r_getL (pc := 29) (y := 394) (ci := 13) (f := 41) (fin := 0) (by decide +kernel) (by decide +kernel) (by exact ev_ob_621) rfl ?_
        intro y21
        refine ev_r_iload (pc := 32) (k := 4) (v := Int32.ofInt x3) (by decide +kernel) (by exact e8) ?_
        refine ev_r_stat (pc := 34) (y := 387) (kind := 2) (mi := 242) (na := 1) (as := [.int (Int32.ofInt x3)]) (rest := [.long y21, .ref 621]) (encc := ev_oL) (Q := ev_PU) (fun x S1 h => jt_242 d (by omega) Q x3 hx3 s11 x S1 h) (Or.inl rfl) (by decide +kernel) (by decide +kernel) (by decide +kernel) (by decide +kernel) rfl (by (try simp only [ev_sum, ev_nv_cat]); first | done | rfl) ?_
        intro y23 s22 _
        show ev_w _ _ _ _ _ [.long y23, .long y21, .ref 621] _ _ _ _
        refine ev_r_iload_n (pc := 37) (k := 3) (v := Int32.ofInt a2) (by decide +kernel) (by exact e7) ?_
        refine ev_r_jn (Q := fun K => ∀ (y26 : Int64), ∀ (y25 : Int64), ∀ (y24 : Int64), ∀ (s32 : ev_St) (w27 : List (Nat × Value)), ev_lk w27 0 = some (.ref 621) → ev_lk w27 2 = some (.int (Int32.ofInt a1)) → ev_lk w27 3 = some (.int (Int32.ofInt a2)) → ev_lk w27 4 = some (.int (Int32.ofInt x3)) → ev_w none (ev_Mof 245) d 53 w27 [.long y26, .long y25, .long y24, .ref 621] s32 (K y26 y25 y24 s32) ev_eU ev_PU) ?_ ?_
        · intro y26 y25 y24 s32 w27 e28 e29 e30 e31
          refine ev_r_toL (pc := 53) (i := .lor) (len := 1) (pc' := 54) (by decide +kernel) rfl ?_
          intro y33
          refine ev_r_toL (pc := 54) (i := .lor) (len := 1) (pc' := 55) (by decide +kernel) rfl ?_
          intro y34
          refine ev_r_putL (pc := 55) (y := 394) (ci := 13) (f := 41) (by decide +kernel) (by decide +kernel) (by exact ev_ob_621) rfl rfl ?_
          intro s35
          refine ev_r_aload_n (pc := 58) (k := 0) (v := .ref 621) trivial (by decide +kernel) (by exact e28) ?_
          refine ev_r_dup (pc := 59) rfl (by decide +kernel) ?_
          refine ev_r_getL (pc := 60) (y := 398) (ci := 13) (f := 42) (fin := 0) (by decide +kernel) (by decide +kernel) (by exact ev_ob_621) rfl ?_
          intro y36
          refine ev_r_iload (pc := 63) (k := 4) (v := Int32.ofInt x3) (by decide +kernel) (by exact e31) ?_
          refine ev_r_stat (pc := 65) (y := 391) (kind := 2) (mi := 243) (na := 1) (as := [.int (Int32.ofInt x3)]) (rest := [.long y36, .ref 621]) (encc := ev_oL) (Q := ev_PU) (fun x S1 h => jt_243 d (by omega) Q x3 hx3 s35 x S1 h) (Or.inl rfl) (by decide +kernel) (by decide +kernel) (by decide +kernel) (by decide +kernel) rfl (by (try simp only [ev_sum, ev_nv_cat]); first | done | rfl) ?_
          intro y38 s37 _
          show ev_w _ _ _ _ _ [.long y38, .long y36, .ref 621] _ _ _ _
          refine ev_r_iload_n (pc := 68) (k := 3) (v := Int32.ofInt a2) (by decide +kernel) (by exact e30) ?_
          refine ev_r_jn (Q := fun K => ∀ (y41 : Int64), ∀ (y40 : Int64), ∀ (y39 : Int64), ∀ (s47 : ev_St) (w42 : List (Nat × Value)), ev_lk w42 0 = some (.ref 621) → ev_lk w42 2 = some (.int (Int32.ofInt a1)) → ev_lk w42 3 = some (.int (Int32.ofInt a2)) → ev_lk w42 4 = some (.int (Int32.ofInt x3)) → ev_w none (ev_Mof 245) d 84 w42 [.long y41, .long y40, .long y39, .ref 621] s47 (K y41 y40 y39 s47) ev_eU ev_PU) ?_ ?_
          · intro y41 y40 y39 s47 w42 e43 e44 e45 e46
            refine ev_r_toL (pc := 84) (i := .lor) (len := 1) (pc' := 85) (by decide +kernel) rfl ?_
            intro y48
            refine ev_r_toL (pc := 85) (i := .lor) (len := 1) (pc' := 86) (by decide +kernel) rfl ?_
            intro y49
            refine ev_r_putL (pc := 86) (y := 398) (ci := 13) (f := 42) (by decide +kernel) (by decide +kernel) (by exact ev_ob_621) rfl rfl ?_
            intro s50
            exact hK89  s50 _ (by exact e43) (by exact e44) (by exact e45) (by exact e46)
          · intro K84 hK84
            refine ev_r_if (pc := 69) (q := .eq) (o := 14) (t := 83) (c := a2 = 0) (by decide +kernel) (ev_k_eq ha2 ev_rng0) (by decide +kernel) ?_ ?_
            · intro c51
              refine ev_r_lconst (pc := 83) (c := 0) (by decide +kernel) ?_
              exact hK84 ((Int64.ofNat ((0 : Fin 2) : Nat))) y38 y36 s37 _ (by exact e28) (by exact e29) (by exact e30) (by exact e31)
            · intro c51
              refine ev_r_iload (pc := 72) (k := 4) (v := Int32.ofInt x3) (by decide +kernel) (by exact e31) ?_
              refine ev_r_stat (pc := 74) (y := 401) (kind := 2) (mi := 229) (na := 1) (as := [.int (Int32.ofInt x3)]) (rest := [.long y38, .long y36, .ref 621]) (encc := ev_oI) (Q := ev_rng) (fun x S1 h => jt_229 d (by omega) Q x3 hx3 s37 x S1 h) (Or.inl rfl) (by decide +kernel) (by decide +kernel) (by decide +kernel) (by decide +kernel) rfl (by (try simp only [ev_sum, ev_nv_cat]); first | done | rfl) ?_
              intro x53 s52 hx53
              show ev_w _ _ _ _ _ [.int (Int32.ofInt x53), .long y38, .long y36, .ref 621] _ _ _ _
              refine ev_r_stat (pc := 77) (y := 391) (kind := 2) (mi := 243) (na := 1) (as := [.int (Int32.ofInt x53)]) (rest := [.long y38, .long y36, .ref 621]) (encc := ev_oL) (Q := ev_PU) (fun x S1 h => jt_243 d (by omega) Q x53 hx53 s52 x S1 h) (Or.inl rfl) (by decide +kernel) (by decide +kernel) (by decide +kernel) (by decide +kernel) rfl (by (try simp only [ev_sum, ev_nv_cat]); first | done | rfl) ?_
              intro y55 s54 _
              show ev_w _ _ _ _ _ [.long y55, .long y38, .long y36, .ref 621] _ _ _ _
              refine ev_r_goto (pc := 80) (o := 4) (t := 84) (by decide +kernel) (by decide +kernel) ?_
              exact hK84 y55 y38 y36 s54 _ (by exact e28) (by exact e29) (by exact e30) (by exact e31)
        · intro K53 hK53
          refine ev_r_if (pc := 38) (q := .eq) (o := 14) (t := 52) (c := a2 = 0) (by decide +kernel) (ev_k_eq ha2 ev_rng0) (by decide +kernel) ?_ ?_
          · intro c56
            refine ev_r_lconst (pc := 52) (c := 0) (by decide +kernel) ?_
            exact hK53 ((Int64.ofNat ((0 : Fin 2) : Nat))) y23 y21 s22 _ (by exact e5) (by exact e6) (by exact e7) (by exact e8)
          · intro c56
            refine ev_r_iload (pc := 41) (k := 4) (v := Int32.ofInt x3) (by decide +kernel) (by exact e8) ?_
            refine ev_r_stat (pc := 43) (y := 401) (kind := 2) (mi := 229) (na := 1) (as := [.int (Int32.ofInt x3)]) (rest := [.long y23, .long y21, .ref 621]) (encc := ev_oI) (Q := ev_rng) (fun x S1 h => jt_229 d (by omega) Q x3 hx3 s22 x S1 h) (Or.inl rfl) (by decide +kernel) (by decide +kernel) (by decide +kernel) (by decide +kernel) rfl (by (try simp only [ev_sum, ev_nv_cat]); first | done | rfl) ?_
            intro x58 s57 hx58
            show ev_w _ _ _ _ _ [.int (Int32.ofInt x58), .long y23, .long y21, .ref 621] _ _ _ _
            refine ev_r_stat (pc := 46) (y := 387) (kind := 2) (mi := 242) (na := 1) (as := [.int (Int32.ofInt x58)]) (rest := [.long y23, .long y21, .ref 621]) (encc := ev_oL) (Q := ev_PU) (fun x S1 h => jt_242 d (by omega) Q x58 hx58 s57 x S1 h) (Or.inl rfl) (by decide +kernel) (by decide +kernel) (by decide +kernel) (by decide +kernel) rfl (by (try simp only [ev_sum, ev_nv_cat]); first | done | rfl) ?_
            intro y60 s59 _
            show ev_w _ _ _ _ _ [.long y60, .long y23, .long y21, .ref 621] _ _ _ _
            refine ev_r_goto (pc := 49) (o := 4) (t := 53) (by decide +kernel) (by decide +kernel) ?_
            exact hK53 y60 y23 y21 s59 _ (by exact e5) (by exact e6) (by exact e7) (by exact e8)
theorem jlt_245_13 (d : Nat) (hd : 5 ≤ d + 1) (Q : Nat) (a1 : Int) (a2 : Int) (ha1 : ev_rng a1) (ha2 : ev_rng a2)   : ∀ q : Nat, ∀ (x3 : Int) (hx3 : ev_rng x3), ∀ (s9 : ev_St) (w4 : List (Nat × Value)), ev_lk w4 0 = some (.ref 621) → ev_lk w4 2 = some (.int (Int32.ofInt a1)) → ev_lk w4 3 = some (.int (Int32.ofInt a2)) → ev_lk w4 4 = some (.int (Int32.ofInt x3)) → ev_w none (ev_Mof 245) d 13 w4 [] s9 (jl_245_13 Q a1 a2  q x3 s9) ev_eU ev_PU := by
  intro q
  induction q with
  | zero =>
    intro x3 hx3 s9 w4 e5 e6 e7 e8
    exact ev_w_none
  | succ q ih => exact jbt_245_13 d hd Q a1 a2 ha1 ha2   _ ih
/-- MendBenchModel.ranges(IIZ)V -/
def jm_245 (Q : Nat) (a0 : Int) (a1 : Int) (a2 : Int) (S : ev_St) : Option ((Unit) × ev_St) := ev_b (ev_pL S 621 41 ((Int64.ofNat ((0 : Fin 2) : Nat)))) fun s1 => ev_b (ev_pL s1 621 42 ((Int64.ofNat ((0 : Fin 2) : Nat)))) fun s2 => jl_245_13 Q a1 a2  Q a0 s2
theorem jt_245 (d : Nat) (hd : 5 ≤ d) (Q : Nat) (a0 : Int) (a1 : Int) (a2 : Int) (ha0 : ev_rng a0) (ha1 : ev_rng a1) (ha2 : ev_rng a2) (S : ev_St) (x : Unit) (S' : ev_St) (hJ : jm_245 Q a0 a1 a2 S = some (x, S')) : ev_Ref d 245 [.ref 621, .int (Int32.ofInt a0), .int (Int32.ofInt a1), .int (Int32.ofInt a2)] S (ev_eU x) S' (ev_PU x) := by
  obtain ⟨d, rfl⟩ : ∃ e, d = e + 1 := ⟨d - 1, by omega⟩
  refine ev_ref_of (P := ev_PU) (lv := [(0, .ref 621), (1, .int (Int32.ofInt a0)), (2, .int (Int32.ofInt a1)), (3, .int (Int32.ofInt a2))]) (by decide +kernel) (by (try simp only [ev_sum, ev_nv_cat]); first | done | rfl) (by (try simp only [lv_args, ev_nv_cat]); first | done | rfl) ?_ x S' hJ
  unfold jm_245
  refine ev_r_aload_n (pc := 0) (k := 0) (v := .ref 621) trivial (by decide +kernel) (by rfl) ?_
  refine ev_r_lconst (pc := 1) (c := 0) (by decide +kernel) ?_
  refine ev_r_putL (pc := 2) (y := 394) (ci := 13) (f := 41) (by decide +kernel) (by decide +kernel) (by exact ev_ob_621) rfl rfl ?_
  intro s1
  refine ev_r_aload_n (pc := 5) (k := 0) (v := .ref 621) trivial (by decide +kernel) (by rfl) ?_
  refine ev_r_lconst (pc := 6) (c := 0) (by decide +kernel) ?_
  refine ev_r_putL (pc := 7) (y := 398) (ci := 13) (f := 42) (by decide +kernel) (by decide +kernel) (by exact ev_ob_621) rfl rfl ?_
  intro s2
  refine ev_r_iload_n (pc := 10) (k := 1) (v := Int32.ofInt a0) (by decide +kernel) (by rfl) ?_
  refine ev_r_istore (pc := 11) (k := 4) (by decide +kernel) (by decide +kernel) rfl ?_
  exact jlt_245_13 d hd Q a1 a2 ha1 ha2   Q a0 ha0 s2 _ (by exact (ev_l1 (by rfl) (by decide) (by decide))) (by exact (ev_l1 (by rfl) (by decide) (by decide))) (by exact (ev_lk_st1 (by rfl) (by decide) rfl)) (by exact ev_lk_st1_self)
def jb_246_18 (Q : Nat) (a0 : Int)  (K18 : Int → Int → ev_St → Option ((Unit) × ev_St)) (x4 : Int) (x5 : Int) (s11 : ev_St) : Option ((Unit) × ev_St) := if 127 ≤ x5 then (some ((), s11)) else (ev_jn (fun (x13 : Int) (s19 : ev_St) => ev_bd (jm_223 Q x5 s19) fun x21 s20 => ev_jn (fun  (s27 : ev_St) => ev_ck (x5 + 1) fun x28 => K18 x4 x28 s27) fun K111 => if x21 = 0 then (K111  s20) else (ev_bd (jm_224 Q a0 s20) fun x31 s30 => if x13 ≠ x31 then (K111  s30) else (ev_b (s30.2.1 621 41) fun y33 => ev_bd (jm_242 Q x5 s30) fun y35 s34 => ev_b (y33 ||| y35) fun y36 => ev_b (ev_pL s34 621 41 y36) fun s37 => ev_b (s37.2.1 621 42) fun y38 => ev_bd (jm_243 Q x5 s37) fun y40 s39 => ev_b (y38 ||| y40) fun y41 => ev_b (ev_pL s39 621 42 y41) fun s42 => K111  s42))) fun K67 => if x4 ≠ 100 then (if x4 ≠ 119 then (ev_jn (fun  (s50 : ev_St) => K67 1 s50) fun K62 => if x5 = 32 then (K62  s11) else (if x5 ≠ 10 then (K67 0 s11) else (K62  s11))) else (ev_bd (jm_227 Q x5 s11) fun x54 s53 => K67 x54 s53)) else (ev_bd (jm_226 Q x5 s11) fun x56 s55 => K67 x56 s55))
def jl_246_18 (Q : Nat) (a0 : Int)  : Nat → Int → Int → ev_St → Option ((Unit) × ev_St)
  | 0 => fun _ _ _ => none
  | q + 1 => jb_246_18 Q a0  (jl_246_18 Q a0  q)
theorem jbt_246_18 (d : Nat) (hd : 5 ≤ d + 1) (Q : Nat) (a0 : Int) (ha0 : ev_rng a0)   (K18 : Int → Int → ev_St → Option ((Unit) × ev_St)) (hK18 : ∀ (x4 : Int) (hx4 : ev_rng x4), ∀ (x5 : Int) (hx5 : ev_rng x5), ∀ (s11 : ev_St) (w6 : List (Nat × Value)), ev_lk w6 0 = some (.ref 621) → ev_lk w6 1 = some (.int (Int32.ofInt a0)) → ev_lk w6 2 = some (.int (Int32.ofInt x4)) → ev_lk w6 3 = some (.int (Int32.ofInt x5)) → ev_w none (ev_Mof 246) d 18 w6 [] s11 (K18 x4 x5 s11) ev_eU ev_PU) : ∀ (x4 : Int) (hx4 : ev_rng x4), ∀ (x5 : Int) (hx5 : ev_rng x5), ∀ (s11 : ev_St) (w6 : List (Nat × Value)), ev_lk w6 0 = some (.ref 621) → ev_lk w6 1 = some (.int (Int32.ofInt a0)) → ev_lk w6 2 = some (.int (Int32.ofInt x4)) → ev_lk w6 3 = some (.int (Int32.ofInt x5)) → ev_w none (ev_Mof 246) d 18 w6 [] s11 (jb_246_18 Q a0  K18 x4 x5 s11) ev_eU ev_PU := by
  intro x4 hx4 x5 hx5 s11 w6 e7 e8 e9 e10
  unfold jb_246_18
  refine ev_r_iload_n (pc := 18) (k := 3) (v := Int32.ofInt x5) (by decide +kernel) (by exact e10) ?_
  refine ev_r_bipush (pc := 19) (k := 127) (by decide +kernel) (by decide +kernel) ?_
  refine ev_r_icmp (pc := 21) (q := .ge) (o := 96) (t := 117) (c := 127 ≤ x5) (by decide +kernel) (ev_k_ge hx5 (by decide)) (by decide +kernel) ?_ ?_
  · intro c12
    exact ev_r_return (pc := 117) (x := ()) trivial (by decide +kernel) (by decide +kernel) rfl
  · intro c12
    refine ev_r_iload_n (pc := 24) (k := 2) (v := Int32.ofInt x4) (by decide +kernel) (by exact e9) ?_
    refine ev_r_bipush (pc := 25) (k := 100) (by decide +kernel) (by decide +kernel) ?_
    refine ev_r_jn (Q := fun K => ∀ (x13 : Int) (hx13 : ev_rng x13), ∀ (s19 : ev_St) (w14 : List (Nat × Value)), ev_lk w14 0 = some (.ref 621) → ev_lk w14 1 = some (.int (Int32.ofInt a0)) → ev_lk w14 2 = some (.int (Int32.ofInt x4)) → ev_lk w14 3 = some (.int (Int32.ofInt x5)) → ev_w none (ev_Mof 246) d 67 w14 [.int (Int32.ofInt x13)] s19 (K x13 s19) ev_eU ev_PU) ?_ ?_
    · intro x13 hx13 s19 w14 e15 e16 e17 e18
      refine ev_r_istore (pc := 67) (k := 4) (by decide +kernel) (by decide +kernel) rfl ?_
      refine ev_r_iload_n (pc := 69) (k := 3) (v := Int32.ofInt x5) (by decide +kernel) (by exact (ev_lk_st1 e18 (by decide) rfl)) ?_
      refine ev_r_stat (pc := 70) (y := 339) (kind := 2) (mi := 223) (na := 1) (as := [.int (Int32.ofInt x5)]) (rest := []) (encc := ev_oI) (Q := ev_bl) (fun x S1 h => jt_223 d (by omega) Q x5 hx5 s19 x S1 h) (Or.inl rfl) (by decide +kernel) (by decide +kernel) (by decide +kernel) (by decide +kernel) rfl (by (try simp only [ev_sum, ev_nv_cat]); first | done | rfl) ?_
      intro x21 s20 hx21
      replace hx21 := ev_bl_rng hx21
      show ev_w _ _ _ _ _ [.int (Int32.ofInt x21)] _ _ _ _
      refine ev_r_jn (Q := fun K => ∀ (s27 : ev_St) (w22 : List (Nat × Value)), ev_lk w22 0 = some (.ref 621) → ev_lk w22 1 = some (.int (Int32.ofInt a0)) → ev_lk w22 2 = some (.int (Int32.ofInt x4)) → ev_lk w22 3 = some (.int (Int32.ofInt x5)) → ev_w none (ev_Mof 246) d 111 w22 [] s27 (K  s27) ev_eU ev_PU) ?_ ?_
      · intro  s27 w22 e23 e24 e25 e26
        refine ev_r_iinc (pc := 111) (k := 3) (c := 1) (x := x5) (by decide +kernel) (by decide +kernel) (by exact e26) (fun _ => rfl) ?_
        intro x28 hx28
        refine ev_r_goto (pc := 114) (o := (-96)) (t := 18) (by decide +kernel) (by decide +kernel) ?_
        exact hK18 x4 hx4 x28 hx28 s27 _ (by exact (ev_l1 e23 (by decide) (by decide))) (by exact (ev_l1 e24 (by decide) (by decide))) (by exact (ev_lk_st1 e25 (by decide) rfl)) (by exact ev_lk_st1_self)
      · intro K111 hK111
        refine ev_r_if (pc := 73) (q := .eq) (o := 38) (t := 111) (c := x21 = 0) (by decide +kernel) (ev_k_eq hx21 ev_rng0) (by decide +kernel) ?_ ?_
        · intro c29
          exact hK111  s20 _ (by exact (ev_l1 e15 (by decide) (by decide))) (by exact (ev_l1 e16 (by decide) (by decide))) (by exact (ev_l1 e17 (by decide) (by decide))) (by exact (ev_lk_st1 e18 (by decide) rfl))
        · intro c29
          refine ev_r_iload (pc := 76) (k := 4) (v := Int32.ofInt x13) (by decide +kernel) (by exact ev_lk_st1_self) ?_
          refine ev_r_iload_n (pc := 78) (k := 1) (v := Int32.ofInt a0) (by decide +kernel) (by exact (ev_l1 e16 (by decide) (by decide))) ?_
          refine ev_r_stat (pc := 79) (y := 329) (kind := 2) (mi := 224) (na := 1) (as := [.int (Int32.ofInt a0)]) (rest := [.int (Int32.ofInt x13)]) (encc := ev_oI) (Q := ev_bl) (fun x S1 h => jt_224 d (by omega) Q a0 ha0 s20 x S1 h) (Or.inl rfl) (by decide +kernel) (by decide +kernel) (by decide +kernel) (by decide +kernel) rfl (by (try simp only [ev_sum, ev_nv_cat]); first | done | rfl) ?_
          intro x31 s30 hx31
          replace hx31 := ev_bl_rng hx31
          show ev_w _ _ _ _ _ [.int (Int32.ofInt x31), .int (Int32.ofInt x13)] _ _ _ _
          refine ev_r_icmp (pc := 82) (q := .ne) (o := 29) (t := 111) (c := x13 ≠ x31) (by decide +kernel) (ev_k_ne hx13 hx31) (by decide +kernel) ?_ ?_
          · intro c32
            exact hK111  s30 _ (by exact (ev_l1 e15 (by decide) (by decide))) (by exact (ev_l1 e16 (by decide) (by decide))) (by exact (ev_l1 e17 (by decide) (by decide))) (by exact (ev_lk_st1 e18 (by decide) rfl))
          · intro c32
            refine ev_r_aload_n (pc := 85) (k := 0) (v := .ref 621) trivial (by decide +kernel) (by exact (ev_l1 e15 (by decide) (by decide))) ?_
            refine ev_r_dup (pc := 86) rfl (by decide +kernel) ?_
            refine ev_r_getL (pc := 87) (y := 394) (ci := 13) (f := 41) (fin := 0) (by decide +kernel) (by decide +kernel) (by exact ev_ob_621) rfl ?_
            intro y33
            refine ev_r_iload_n (pc := 90) (k := 3) (v := Int32.ofInt x5) (by decide +kernel) (by exact (ev_lk_st1 e18 (by decide) rfl)) ?_
            refine ev_r_stat (pc := 91) (y := 387) (kind := 2) (mi := 242) (na := 1) (as := [.int (Int32.ofInt x5)]) (rest := [.long y33, .ref 621]) (encc := ev_oL) (Q := ev_PU) (fun x S1 h => jt_242 d (by omega) Q x5 hx5 s30 x S1 h) (Or.inl rfl) (by decide +kernel) (by decide +kernel) (by decide +kernel) (by decide +kernel) rfl (by (try simp only [ev_sum, ev_nv_cat]); first | done | rfl) ?_
            intro y35 s34 _
            show ev_w _ _ _ _ _ [.long y35, .long y33, .ref 621] _ _ _ _
            refine ev_r_toL (pc := 94) (i := .lor) (len := 1) (pc' := 95) (by decide +kernel) rfl ?_
            intro y36
            refine ev_r_putL (pc := 95) (y := 394) (ci := 13) (f := 41) (by decide +kernel) (by decide +kernel) (by exact ev_ob_621) rfl rfl ?_
            intro s37
            refine ev_r_aload_n (pc := 98) (k := 0) (v := .ref 621) trivial (by decide +kernel) (by exact (ev_l1 e15 (by decide) (by decide))) ?_
            refine ev_r_dup (pc := 99) rfl (by decide +kernel) ?_
            refine ev_r_getL (pc := 100) (y := 398) (ci := 13) (f := 42) (fin := 0) (by decide +kernel) (by decide +kernel) (by exact ev_ob_621) rfl ?_
            intro y38
            refine ev_r_iload_n (pc := 103) (k := 3) (v := Int32.ofInt x5) (by decide +kernel) (by exact (ev_lk_st1 e18 (by decide) rfl)) ?_
            refine ev_r_stat (pc := 104) (y := 391) (kind := 2) (mi := 243) (na := 1) (as := [.int (Int32.ofInt x5)]) (rest := [.long y38, .ref 621]) (encc := ev_oL) (Q := ev_PU) (fun x S1 h => jt_243 d (by omega) Q x5 hx5 s37 x S1 h) (Or.inl rfl) (by decide +kernel) (by decide +kernel) (by decide +kernel) (by decide +kernel) rfl (by (try simp only [ev_sum, ev_nv_cat]); first | done | rfl) ?_
            intro y40 s39 _
            show ev_w _ _ _ _ _ [.long y40, .long y38, .ref 621] _ _ _ _
            refine ev_r_toL (pc := 107) (i := .lor) (len := 1) (pc' := 108) (by decide +kernel) rfl ?_
            intro y41
            refine ev_r_putL (pc := 108) (y := 398) (ci := 13) (f := 42) (by decide +kernel) (by decide +kernel) (by exact ev_ob_621) rfl rfl ?_
            intro s42
            exact hK111  s42 _ (by exact (ev_l1 e15 (by decide) (by decide))) (by exact (ev_l1 e16 (by decide) (by decide))) (by exact (ev_l1 e17 (by decide) (by decide))) (by exact (ev_lk_st1 e18 (by decide) rfl))
    · intro K67 hK67
      refine ev_r_icmp (pc := 27) (q := .ne) (o := 10) (t := 37) (c := x4 ≠ 100) (by decide +kernel) (ev_k_ne hx4 (by decide)) (by decide +kernel) ?_ ?_
      · intro c43
        refine ev_r_iload_n (pc := 37) (k := 2) (v := Int32.ofInt x4) (by decide +kernel) (by exact e9) ?_
        refine ev_r_bipush (pc := 38) (k := 119) (by decide +kernel) (by decide +kernel) ?_
        refine ev_r_icmp (pc := 40) (q := .ne) (o := 10) (t := 50) (c := x4 ≠ 119) (by decide +kernel) (ev_k_ne hx4 (by decide)) (by decide +kernel) ?_ ?_
        · intro c44
          refine ev_r_iload_n (pc := 50) (k := 3) (v := Int32.ofInt x5) (by decide +kernel) (by exact e10) ?_
          refine ev_r_bipush (pc := 51) (k := 32) (by decide +kernel) (by decide +kernel) ?_
          refine ev_r_jn (Q := fun K => ∀ (s50 : ev_St) (w45 : List (Nat × Value)), ev_lk w45 0 = some (.ref 621) → ev_lk w45 1 = some (.int (Int32.ofInt a0)) → ev_lk w45 2 = some (.int (Int32.ofInt x4)) → ev_lk w45 3 = some (.int (Int32.ofInt x5)) → ev_w none (ev_Mof 246) d 62 w45 [] s50 (K  s50) ev_eU ev_PU) ?_ ?_
          · intro  s50 w45 e46 e47 e48 e49
            refine ev_r_iconst (pc := 62) (k := 1) (by decide +kernel) ?_
            refine ev_r_goto (pc := 63) (o := 4) (t := 67) (by decide +kernel) (by decide +kernel) ?_
            exact hK67 1 (by decide) s50 _ (by exact e46) (by exact e47) (by exact e48) (by exact e49)
          · intro K62 hK62
            refine ev_r_icmp (pc := 53) (q := .eq) (o := 9) (t := 62) (c := x5 = 32) (by decide +kernel) (ev_k_eq hx5 (by decide)) (by decide +kernel) ?_ ?_
            · intro c51
              exact hK62  s11 _ (by exact e7) (by exact e8) (by exact e9) (by exact e10)
            · intro c51
              refine ev_r_iload_n (pc := 56) (k := 3) (v := Int32.ofInt x5) (by decide +kernel) (by exact e10) ?_
              refine ev_r_bipush (pc := 57) (k := 10) (by decide +kernel) (by decide +kernel) ?_
              refine ev_r_icmp (pc := 59) (q := .ne) (o := 7) (t := 66) (c := x5 ≠ 10) (by decide +kernel) (ev_k_ne hx5 (by decide)) (by decide +kernel) ?_ ?_
              · intro c52
                refine ev_r_iconst (pc := 66) (k := 0) (by decide +kernel) ?_
                exact hK67 0 (by decide) s11 _ (by exact e7) (by exact e8) (by exact e9) (by exact e10)
              · intro c52
                exact hK62  s11 _ (by exact e7) (by exact e8) (by exact e9) (by exact e10)
        · intro c44
          refine ev_r_iload_n (pc := 43) (k := 3) (v := Int32.ofInt x5) (by decide +kernel) (by exact e10) ?_
          refine ev_r_stat (pc := 44) (y := 404) (kind := 2) (mi := 227) (na := 1) (as := [.int (Int32.ofInt x5)]) (rest := []) (encc := ev_oI) (Q := ev_bl) (fun x S1 h => jt_227 d (by omega) Q x5 hx5 s11 x S1 h) (Or.inl rfl) (by decide +kernel) (by decide +kernel) (by decide +kernel) (by decide +kernel) rfl (by (try simp only [ev_sum, ev_nv_cat]); first | done | rfl) ?_
          intro x54 s53 hx54
          replace hx54 := ev_bl_rng hx54
          show ev_w _ _ _ _ _ [.int (Int32.ofInt x54)] _ _ _ _
          refine ev_r_goto (pc := 47) (o := 20) (t := 67) (by decide +kernel) (by decide +kernel) ?_
          exact hK67 x54 hx54 s53 _ (by exact e7) (by exact e8) (by exact e9) (by exact e10)
      · intro c43
        refine ev_r_iload_n (pc := 30) (k := 3) (v := Int32.ofInt x5) (by decide +kernel) (by exact e10) ?_
        refine ev_r_stat (pc := 31) (y := 336) (kind := 2) (mi := 226) (na := 1) (as := [.int (Int32.ofInt x5)]) (rest := []) (encc := ev_oI) (Q := ev_bl) (fun x S1 h => jt_226 d (by omega) Q x5 hx5 s11 x S1 h) (Or.inl rfl) (by decide +kernel) (by decide +kernel) (by decide +kernel) (by decide +kernel) rfl (by (try simp only [ev_sum, ev_nv_cat]); first | done | rfl) ?_
        intro x56 s55 hx56
        replace hx56 := ev_bl_rng hx56
        show ev_w _ _ _ _ _ [.int (Int32.ofInt x56)] _ _ _ _
        refine ev_r_goto (pc := 34) (o := 33) (t := 67) (by decide +kernel) (by decide +kernel) ?_
        exact hK67 x56 hx56 s55 _ (by exact e7) (by exact e8) (by exact e9) (by exact e10)
theorem jlt_246_18 (d : Nat) (hd : 5 ≤ d + 1) (Q : Nat) (a0 : Int) (ha0 : ev_rng a0)   : ∀ q : Nat, ∀ (x4 : Int) (hx4 : ev_rng x4), ∀ (x5 : Int) (hx5 : ev_rng x5), ∀ (s11 : ev_St) (w6 : List (Nat × Value)), ev_lk w6 0 = some (.ref 621) → ev_lk w6 1 = some (.int (Int32.ofInt a0)) → ev_lk w6 2 = some (.int (Int32.ofInt x4)) → ev_lk w6 3 = some (.int (Int32.ofInt x5)) → ev_w none (ev_Mof 246) d 18 w6 [] s11 (jl_246_18 Q a0  q x4 x5 s11) ev_eU ev_PU := by
  intro q
  induction q with
  | zero =>
    intro x4 hx4 x5 hx5 s11 w6 e7 e8 e9 e10
    exact ev_w_none
  | succ q ih => exact jbt_246_18 d hd Q a0 ha0   _ ih
/-- MendBenchModel.sorts(I)V -/
def jm_246 (Q : Nat) (a0 : Int) (S : ev_St) : Option ((Unit) × ev_St) := ev_b (ev_ior a0 32) fun x1 => ev_b (ev_pL S 621 41 ((Int64.ofNat ((0 : Fin 2) : Nat)))) fun s2 => ev_b (ev_pL s2 621 42 ((Int64.ofNat ((0 : Fin 2) : Nat)))) fun s3 => jl_246_18 Q a0  Q x1 10 s3
theorem jt_246 (d : Nat) (hd : 5 ≤ d) (Q : Nat) (a0 : Int) (ha0 : ev_rng a0) (S : ev_St) (x : Unit) (S' : ev_St) (hJ : jm_246 Q a0 S = some (x, S')) : ev_Ref d 246 [.ref 621, .int (Int32.ofInt a0)] S (ev_eU x) S' (ev_PU x) := by
  obtain ⟨d, rfl⟩ : ∃ e, d = e + 1 := ⟨d - 1, by omega⟩
  refine ev_ref_of (P := ev_PU) (lv := [(0, .ref 621), (1, .int (Int32.ofInt a0))]) (by decide +kernel) (by (try simp only [ev_sum, ev_nv_cat]); first | done | rfl) (by (try simp only [lv_args, ev_nv_cat]); first | done | rfl) ?_ x S' hJ
  unfold jm_246
  refine ev_r_iload_n (pc := 0) (k := 1) (v := Int32.ofInt a0) (by decide +kernel) (by rfl) ?_
  refine ev_r_bipush (pc := 1) (k := 32) (by decide +kernel) (by decide +kernel) ?_
  refine ev_r_ior (pc := 3) (by decide +kernel) ?_
  intro x1 hx1
  refine ev_r_istore_n (pc := 4) (k := 2) (by decide +kernel) (by decide +kernel) rfl ?_
  refine ev_r_aload_n (pc := 5) (k := 0) (v := .ref 621) trivial (by decide +kernel) (by exact (ev_l1 (by rfl) (by decide) (by decide))) ?_
  refine ev_r_lconst (pc := 6) (c := 0) (by decide +kernel) ?_
  refine ev_r_putL (pc := 7) (y := 394) (ci := 13) (f := 41) (by decide +kernel) (by decide +kernel) (by exact ev_ob_621) rfl rfl ?_
  intro s2
  refine ev_r_aload_n (pc := 10) (k := 0) (v := .ref 621) trivial (by decide +kernel) (by exact (ev_l1 (by rfl) (by decide) (by decide))) ?_
  refine ev_r_lconst (pc := 11) (c := 0) (by decide +kernel) ?_
  refine ev_r_putL (pc := 12) (y := 398) (ci := 13) (f := 42) (by decide +kernel) (by decide +kernel) (by exact ev_ob_621) rfl rfl ?_
  intro s3
  refine ev_r_bipush (pc := 15) (k := 10) (by decide +kernel) (by decide +kernel) ?_
  refine ev_r_istore_n (pc := 17) (k := 3) (by decide +kernel) (by decide +kernel) rfl ?_
  exact jlt_246_18 d hd Q a0 ha0   Q x1 hx1 10 (by decide) s3 _ (by exact (ev_l1 (ev_l1 (by rfl) (by decide) (by decide)) (by decide) (by decide))) (by exact (ev_l1 (ev_lk_st1 (by rfl) (by decide) rfl) (by decide) (by decide))) (by exact (ev_lk_st1 ev_lk_st1_self (by decide) rfl)) (by exact ev_lk_st1_self)
/-- MendBenchModel.isSort(I)Z -/
def jm_247 (Q : Nat) (a0 : Int) (S : ev_St) : Option ((Int) × ev_St) := ev_b (ev_ior a0 32) fun x1 => ev_bd (jm_225 Q a0 S) fun x3 s2 => if x3 = 0 then (some (0, s2)) else (if x1 = 100 then (some (1, s2)) else (if x1 = 119 then (some (1, s2)) else (if x1 ≠ 115 then (some (0, s2)) else (some (1, s2)))))
theorem jt_247 (d : Nat) (hd : 4 ≤ d) (Q : Nat) (a0 : Int) (ha0 : ev_rng a0) (S : ev_St) (x : Int) (S' : ev_St) (hJ : jm_247 Q a0 S = some (x, S')) : ev_Ref d 247 [.int (Int32.ofInt a0)] S (ev_eI x) S' (ev_bl x) := by
  obtain ⟨d, rfl⟩ : ∃ e, d = e + 1 := ⟨d - 1, by omega⟩
  refine ev_ref_of (P := ev_bl) (lv := [(0, .int (Int32.ofInt a0))]) (by decide +kernel) (by (try simp only [ev_sum, ev_nv_cat]); first | done | rfl) (by (try simp only [lv_args, ev_nv_cat]); first | done | rfl) ?_ x S' hJ
  unfold jm_247
  refine ev_r_iload_n (pc := 0) (k := 0) (v := Int32.ofInt a0) (by decide +kernel) (by rfl) ?_
  refine ev_r_bipush (pc := 1) (k := 32) (by decide +kernel) (by decide +kernel) ?_
  refine ev_r_ior (pc := 3) (by decide +kernel) ?_
  intro x1 hx1
  refine ev_r_istore_n (pc := 4) (k := 1) (by decide +kernel) (by decide +kernel) rfl ?_
  refine ev_r_iload_n (pc := 5) (k := 0) (v := Int32.ofInt a0) (by decide +kernel) (by exact (ev_lk_st1 (by rfl) (by decide) rfl)) ?_
  refine ev_r_stat (pc := 6) (y := 333) (kind := 2) (mi := 225) (na := 1) (as := [.int (Int32.ofInt a0)]) (rest := []) (encc := ev_oI) (Q := ev_bl) (fun x S1 h => jt_225 d (by omega) Q a0 ha0 S x S1 h) (Or.inl rfl) (by decide +kernel) (by decide +kernel) (by decide +kernel) (by decide +kernel) rfl (by (try simp only [ev_sum, ev_nv_cat]); first | done | rfl) ?_
  intro x3 s2 hx3
  replace hx3 := ev_bl_rng hx3
  show ev_w _ _ _ _ _ [.int (Int32.ofInt x3)] _ _ _ _
  refine ev_r_if (pc := 9) (q := .eq) (o := 25) (t := 34) (c := x3 = 0) (by decide +kernel) (ev_k_eq hx3 ev_rng0) (by decide +kernel) ?_ ?_
  · intro c4
    refine ev_r_iconst (pc := 34) (k := 0) (by decide +kernel) ?_
    exact ev_r_ireturn (pc := 35) (x := 0) (v := Int32.ofInt 0) (ty := .boolean) (by decide : ev_bl 0) (by decide +kernel) (by decide +kernel) (ev_ret_bl (by decide : ev_bl 0)) rfl
  · intro c4
    refine ev_r_iload_n (pc := 12) (k := 1) (v := Int32.ofInt x1) (by decide +kernel) (by exact ev_lk_st1_self) ?_
    refine ev_r_bipush (pc := 13) (k := 100) (by decide +kernel) (by decide +kernel) ?_
    refine ev_r_icmp (pc := 15) (q := .eq) (o := 15) (t := 30) (c := x1 = 100) (by decide +kernel) (ev_k_eq hx1 (by decide)) (by decide +kernel) ?_ ?_
    · intro c5
      refine ev_r_iconst (pc := 30) (k := 1) (by decide +kernel) ?_
      refine ev_r_goto (pc := 31) (o := 4) (t := 35) (by decide +kernel) (by decide +kernel) ?_
      exact ev_r_ireturn (pc := 35) (x := 1) (v := Int32.ofInt 1) (ty := .boolean) (by decide : ev_bl 1) (by decide +kernel) (by decide +kernel) (ev_ret_bl (by decide : ev_bl 1)) rfl
    · intro c5
      refine ev_r_iload_n (pc := 18) (k := 1) (v := Int32.ofInt x1) (by decide +kernel) (by exact ev_lk_st1_self) ?_
      refine ev_r_bipush (pc := 19) (k := 119) (by decide +kernel) (by decide +kernel) ?_
      refine ev_r_icmp (pc := 21) (q := .eq) (o := 9) (t := 30) (c := x1 = 119) (by decide +kernel) (ev_k_eq hx1 (by decide)) (by decide +kernel) ?_ ?_
      · intro c6
        refine ev_r_iconst (pc := 30) (k := 1) (by decide +kernel) ?_
        refine ev_r_goto (pc := 31) (o := 4) (t := 35) (by decide +kernel) (by decide +kernel) ?_
        exact ev_r_ireturn (pc := 35) (x := 1) (v := Int32.ofInt 1) (ty := .boolean) (by decide : ev_bl 1) (by decide +kernel) (by decide +kernel) (ev_ret_bl (by decide : ev_bl 1)) rfl
      · intro c6
        refine ev_r_iload_n (pc := 24) (k := 1) (v := Int32.ofInt x1) (by decide +kernel) (by exact ev_lk_st1_self) ?_
        refine ev_r_bipush (pc := 25) (k := 115) (by decide +kernel) (by decide +kernel) ?_
        refine ev_r_icmp (pc := 27) (q := .ne) (o := 7) (t := 34) (c := x1 ≠ 115) (by decide +kernel) (ev_k_ne hx1 (by decide)) (by decide +kernel) ?_ ?_
        · intro c7
          refine ev_r_iconst (pc := 34) (k := 0) (by decide +kernel) ?_
          exact ev_r_ireturn (pc := 35) (x := 0) (v := Int32.ofInt 0) (ty := .boolean) (by decide : ev_bl 0) (by decide +kernel) (by decide +kernel) (ev_ret_bl (by decide : ev_bl 0)) rfl
        · intro c7
          refine ev_r_iconst (pc := 30) (k := 1) (by decide +kernel) ?_
          refine ev_r_goto (pc := 31) (o := 4) (t := 35) (by decide +kernel) (by decide +kernel) ?_
          exact ev_r_ireturn (pc := 35) (x := 1) (v := Int32.ofInt 1) (ty := .boolean) (by decide : ev_bl 1) (by decide +kernel) (by decide +kernel) (ev_ret_bl (by decide : ev_bl 1)) rfl
/-- MendBenchModel.joins(I)V -/
def jm_248 (Q : Nat) (a0 : Int) (S : ev_St) : Option ((Unit) × ev_St) := ev_b (S.1 621 25) fun x1 => ev_jn (fun (x2 : Int) (s6 : ev_St) => ev_if (ev_bl x2) (ev_b (ev_pI s6 621 25 x2) fun s7 => ev_if ((0 : Int) ≤ a0 ∧ a0 < (ev_aln 657 : Int)) (ev_b (s7.1 657 (Int.toNat a0)) fun x9 => ev_jn (fun (y12 : Int64) (x11 : Int) (r10 : Nat) (s16 : ev_St) => ev_if ((0 : Int) ≤ x11 ∧ x11 < (ev_aln r10 : Int)) (ev_b (ev_pL s16 r10 (Int.toNat x11) y12) fun s17 => ev_if ((0 : Int) ≤ a0 ∧ a0 < (ev_aln 657 : Int)) (ev_b (s17.1 657 (Int.toNat a0)) fun x18 => ev_jn (fun (y21 : Int64) (x20 : Int) (r19 : Nat) (s25 : ev_St) => ev_if ((0 : Int) ≤ x20 ∧ x20 < (ev_aln r19 : Int)) (ev_b (ev_pL s25 r19 (Int.toNat x20) y21) fun s26 => ev_if ((0 : Int) ≤ a0 ∧ a0 < (ev_aln 653 : Int)) (ev_b (ev_pL s26 653 (Int.toNat a0) ((Int64.ofNat ((0 : Fin 2) : Nat)))) fun s27 => ev_if ((0 : Int) ≤ a0 ∧ a0 < (ev_aln 654 : Int)) (ev_b (ev_pL s27 654 (Int.toNat a0) ((Int64.ofNat ((0 : Fin 2) : Nat)))) fun s28 => ev_if ((0 : Int) ≤ a0 ∧ a0 < (ev_aln 656 : Int)) (ev_b (ev_pI s28 656 (Int.toNat a0) 0) fun s29 => some ((), s29)))))) fun K158 => if x18 ≠ 0 then (ev_if ((0 : Int) ≤ a0 ∧ a0 < (ev_aln 657 : Int)) (ev_b (s17.1 657 (Int.toNat a0)) fun x31 => if x31 ≠ 1 then (ev_if ((0 : Int) ≤ a0 ∧ a0 < (ev_aln 652 : Int)) (ev_b (s17.2.1 652 (Int.toNat a0)) fun y33 => ev_if ((0 : Int) ≤ a0 ∧ a0 < (ev_aln 654 : Int)) (ev_b (s17.2.1 654 (Int.toNat a0)) fun y34 => ev_b (y34 ^^^ (-1)) fun y35 => ev_b (y33 &&& y35) fun y36 => K158 y36 a0 652 s17))) else (ev_if ((0 : Int) ≤ a0 ∧ a0 < (ev_aln 652 : Int)) (ev_b (s17.2.1 652 (Int.toNat a0)) fun y37 => ev_if ((0 : Int) ≤ a0 ∧ a0 < (ev_aln 654 : Int)) (ev_b (s17.2.1 654 (Int.toNat a0)) fun y38 => ev_b (y37 &&& y38) fun y39 => K158 y39 a0 652 s17))))) else (ev_if ((0 : Int) ≤ a0 ∧ a0 < (ev_aln 654 : Int)) (ev_b (s17.2.1 654 (Int.toNat a0)) fun y40 => K158 y40 a0 652 s17))))) fun K91 => if x9 ≠ 0 then (ev_if ((0 : Int) ≤ a0 ∧ a0 < (ev_aln 657 : Int)) (ev_b (s7.1 657 (Int.toNat a0)) fun x42 => if x42 ≠ 1 then (ev_if ((0 : Int) ≤ a0 ∧ a0 < (ev_aln 651 : Int)) (ev_b (s7.2.1 651 (Int.toNat a0)) fun y44 => ev_if ((0 : Int) ≤ a0 ∧ a0 < (ev_aln 653 : Int)) (ev_b (s7.2.1 653 (Int.toNat a0)) fun y45 => ev_b (y45 ^^^ (-1)) fun y46 => ev_b (y44 &&& y46) fun y47 => K91 y47 a0 651 s7))) else (ev_if ((0 : Int) ≤ a0 ∧ a0 < (ev_aln 651 : Int)) (ev_b (s7.2.1 651 (Int.toNat a0)) fun y48 => ev_if ((0 : Int) ≤ a0 ∧ a0 < (ev_aln 653 : Int)) (ev_b (s7.2.1 653 (Int.toNat a0)) fun y49 => ev_b (y48 &&& y49) fun y50 => K91 y50 a0 651 s7))))) else (ev_if ((0 : Int) ≤ a0 ∧ a0 < (ev_aln 653 : Int)) (ev_b (s7.2.1 653 (Int.toNat a0)) fun y51 => K91 y51 a0 651 s7))))) fun K22 => ev_jn (fun  (s55 : ev_St) => K22 1 s55) fun K17 => if x1 ≠ 0 then (K17  S) else (ev_if ((0 : Int) ≤ a0 ∧ a0 < (ev_aln 656 : Int)) (ev_b (S.1 656 (Int.toNat a0)) fun x57 => if x57 ≠ 0 then (K22 0 S) else (K17  S)))
theorem jt_248 (d : Nat) (hd : 1 ≤ d) (Q : Nat) (a0 : Int) (ha0 : ev_rng a0) (S : ev_St) (x : Unit) (S' : ev_St) (hJ : jm_248 Q a0 S = some (x, S')) : ev_Ref d 248 [.ref 621, .int (Int32.ofInt a0)] S (ev_eU x) S' (ev_PU x) := by
  obtain ⟨d, rfl⟩ : ∃ e, d = e + 1 := ⟨d - 1, by omega⟩
  refine ev_ref_of (P := ev_PU) (lv := [(0, .ref 621), (1, .int (Int32.ofInt a0))]) (by decide +kernel) (by (try simp only [ev_sum, ev_nv_cat]); first | done | rfl) (by (try simp only [lv_args, ev_nv_cat]); first | done | rfl) ?_ x S' hJ
  unfold jm_248
  refine ev_r_aload_n (pc := 0) (k := 0) (v := .ref 621) trivial (by decide +kernel) (by rfl) ?_
  refine ev_r_aload_n (pc := 1) (k := 0) (v := .ref 621) trivial (by decide +kernel) (by rfl) ?_
  refine ev_r_getI (pc := 2) (y := 352) (ci := 13) (f := 25) (fin := 0) (by decide +kernel) (by decide +kernel) (by exact ev_ob_621) rfl ?_
  intro x1 hx1
  refine ev_r_jn (Q := fun K => ∀ (x2 : Int) (hx2 : ev_rng x2), ∀ (s6 : ev_St) (w3 : List (Nat × Value)), ev_lk w3 0 = some (.ref 621) → ev_lk w3 1 = some (.int (Int32.ofInt a0)) → ev_w none (ev_Mof 248) d 22 w3 [.int (Int32.ofInt x2), .ref 621] s6 (K x2 s6) ev_eU ev_PU) ?_ ?_
  · intro x2 hx2 s6 w3 e4 e5
    refine ev_r_chk ?_
    intro c8
    refine ev_r_putI (pc := 22) (y := 352) (ci := 13) (f := 25) hx2 (by decide +kernel) (by decide +kernel) (by exact ev_ob_621) rfl (ev_fit_bl c8) ?_
    intro s7
    refine ev_r_aload_n (pc := 25) (k := 0) (v := .ref 621) trivial (by decide +kernel) (by exact e4) ?_
    refine ev_r_getC (pc := 26) (y := 99) (ci := 13) (f := 43) (fin := 1) (k' := 651) (by decide +kernel) (by decide +kernel) (by exact ev_ob_621) rfl rfl ?_
    refine ev_r_iload_n (pc := 29) (k := 1) (v := Int32.ofInt a0) (by decide +kernel) (by exact e5) ?_
    refine ev_r_aload_n (pc := 30) (k := 0) (v := .ref 621) trivial (by decide +kernel) (by exact e4) ?_
    refine ev_r_getC (pc := 31) (y := 117) (ci := 13) (f := 49) (fin := 1) (k' := 657) (by decide +kernel) (by decide +kernel) (by exact ev_ob_621) rfl rfl ?_
    refine ev_r_iload_n (pc := 34) (k := 1) (v := Int32.ofInt a0) (by decide +kernel) (by exact e5) ?_
    refine ev_r_iald (pc := 35) ha0 (by decide +kernel) (by exact ev_ab_657) ?_
    intro x9 hx9
    refine ev_r_jn (Q := fun K => ∀ (y12 : Int64), ∀ (x11 : Int) (hx11 : ev_rng x11), ∀ (r10 : Nat) (hr10 : ev_isAb r10 2 .long = true), ∀ (s16 : ev_St) (w13 : List (Nat × Value)), ev_lk w13 0 = some (.ref 621) → ev_lk w13 1 = some (.int (Int32.ofInt a0)) → ev_w none (ev_Mof 248) d 91 w13 [.long y12, .int (Int32.ofInt x11), .ref r10] s16 (K y12 x11 r10 s16) ev_eU ev_PU) ?_ ?_
    · intro y12 x11 hx11 r10 hr10 s16 w13 e14 e15
      refine ev_r_last (pc := 91) hx11 (by decide +kernel) (by exact hr10) ?_
      intro s17
      refine ev_r_aload_n (pc := 92) (k := 0) (v := .ref 621) trivial (by decide +kernel) (by exact e14) ?_
      refine ev_r_getC (pc := 93) (y := 102) (ci := 13) (f := 44) (fin := 1) (k' := 652) (by decide +kernel) (by decide +kernel) (by exact ev_ob_621) rfl rfl ?_
      refine ev_r_iload_n (pc := 96) (k := 1) (v := Int32.ofInt a0) (by decide +kernel) (by exact e15) ?_
      refine ev_r_aload_n (pc := 97) (k := 0) (v := .ref 621) trivial (by decide +kernel) (by exact e14) ?_
      refine ev_r_getC (pc := 98) (y := 117) (ci := 13) (f := 49) (fin := 1) (k' := 657) (by decide +kernel) (by decide +kernel) (by exact ev_ob_621) rfl rfl ?_
      refine ev_r_iload_n (pc := 101) (k := 1) (v := Int32.ofInt a0) (by decide +kernel) (by exact e15) ?_
      refine ev_r_iald (pc := 102) ha0 (by decide +kernel) (by exact ev_ab_657) ?_
      intro x18 hx18
      refine ev_r_jn (Q := fun K => ∀ (y21 : Int64), ∀ (x20 : Int) (hx20 : ev_rng x20), ∀ (r19 : Nat) (hr19 : ev_isAb r19 2 .long = true), ∀ (s25 : ev_St) (w22 : List (Nat × Value)), ev_lk w22 0 = some (.ref 621) → ev_lk w22 1 = some (.int (Int32.ofInt a0)) → ev_w none (ev_Mof 248) d 158 w22 [.long y21, .int (Int32.ofInt x20), .ref r19] s25 (K y21 x20 r19 s25) ev_eU ev_PU) ?_ ?_
      · intro y21 x20 hx20 r19 hr19 s25 w22 e23 e24
        refine ev_r_last (pc := 158) hx20 (by decide +kernel) (by exact hr19) ?_
        intro s26
        refine ev_r_aload_n (pc := 159) (k := 0) (v := .ref 621) trivial (by decide +kernel) (by exact e23) ?_
        refine ev_r_getC (pc := 160) (y := 105) (ci := 13) (f := 45) (fin := 1) (k' := 653) (by decide +kernel) (by decide +kernel) (by exact ev_ob_621) rfl rfl ?_
        refine ev_r_iload_n (pc := 163) (k := 1) (v := Int32.ofInt a0) (by decide +kernel) (by exact e24) ?_
        refine ev_r_lconst (pc := 164) (c := 0) (by decide +kernel) ?_
        refine ev_r_last (pc := 165) ha0 (by decide +kernel) (by exact ev_ab_653) ?_
        intro s27
        refine ev_r_aload_n (pc := 166) (k := 0) (v := .ref 621) trivial (by decide +kernel) (by exact e23) ?_
        refine ev_r_getC (pc := 167) (y := 108) (ci := 13) (f := 46) (fin := 1) (k' := 654) (by decide +kernel) (by decide +kernel) (by exact ev_ob_621) rfl rfl ?_
        refine ev_r_iload_n (pc := 170) (k := 1) (v := Int32.ofInt a0) (by decide +kernel) (by exact e24) ?_
        refine ev_r_lconst (pc := 171) (c := 0) (by decide +kernel) ?_
        refine ev_r_last (pc := 172) ha0 (by decide +kernel) (by exact ev_ab_654) ?_
        intro s28
        refine ev_r_aload_n (pc := 173) (k := 0) (v := .ref 621) trivial (by decide +kernel) (by exact e23) ?_
        refine ev_r_getC (pc := 174) (y := 114) (ci := 13) (f := 48) (fin := 1) (k' := 656) (by decide +kernel) (by decide +kernel) (by exact ev_ob_621) rfl rfl ?_
        refine ev_r_iload_n (pc := 177) (k := 1) (v := Int32.ofInt a0) (by decide +kernel) (by exact e24) ?_
        refine ev_r_iconst (pc := 178) (k := 0) (by decide +kernel) ?_
        refine ev_r_bast (pc := 179) (ty := .boolean) (Or.inr rfl) (ev_nar_bl (by decide : ev_bl 0)) (by decide) ha0 (by decide +kernel) (by exact ev_ab_656) ?_
        intro s29
        exact ev_r_return (pc := 180) (x := ()) trivial (by decide +kernel) (by decide +kernel) rfl
      · intro K158 hK158
        refine ev_r_if (pc := 103) (q := .ne) (o := 12) (t := 115) (c := x18 ≠ 0) (by decide +kernel) (ev_k_ne hx18 ev_rng0) (by decide +kernel) ?_ ?_
        · intro c30
          refine ev_r_aload_n (pc := 115) (k := 0) (v := .ref 621) trivial (by decide +kernel) (by exact e14) ?_
          refine ev_r_getC (pc := 116) (y := 117) (ci := 13) (f := 49) (fin := 1) (k' := 657) (by decide +kernel) (by decide +kernel) (by exact ev_ob_621) rfl rfl ?_
          refine ev_r_iload_n (pc := 119) (k := 1) (v := Int32.ofInt a0) (by decide +kernel) (by exact e15) ?_
          refine ev_r_iald (pc := 120) ha0 (by decide +kernel) (by exact ev_ab_657) ?_
          intro x31 hx31
          refine ev_r_iconst (pc := 121) (k := 1) (by decide +kernel) ?_
          refine ev_r_icmp (pc := 122) (q := .ne) (o := 19) (t := 141) (c := x31 ≠ 1) (by decide +kernel) (ev_k_ne hx31 (by decide)) (by decide +kernel) ?_ ?_
          · intro c32
            refine ev_r_aload_n (pc := 141) (k := 0) (v := .ref 621) trivial (by decide +kernel) (by exact e14) ?_
            refine ev_r_getC (pc := 142) (y := 102) (ci := 13) (f := 44) (fin := 1) (k' := 652) (by decide +kernel) (by decide +kernel) (by exact ev_ob_621) rfl rfl ?_
            refine ev_r_iload_n (pc := 145) (k := 1) (v := Int32.ofInt a0) (by decide +kernel) (by exact e15) ?_
            refine ev_r_lald (pc := 146) ha0 (by decide +kernel) (by exact ev_ab_652) ?_
            intro y33
            refine ev_r_aload_n (pc := 147) (k := 0) (v := .ref 621) trivial (by decide +kernel) (by exact e14) ?_
            refine ev_r_getC (pc := 148) (y := 108) (ci := 13) (f := 46) (fin := 1) (k' := 654) (by decide +kernel) (by decide +kernel) (by exact ev_ob_621) rfl rfl ?_
            refine ev_r_iload_n (pc := 151) (k := 1) (v := Int32.ofInt a0) (by decide +kernel) (by exact e15) ?_
            refine ev_r_lald (pc := 152) ha0 (by decide +kernel) (by exact ev_ab_654) ?_
            intro y34
            refine ev_r_ldc2 (pc := 153) (y := 407) (k := -1) (by decide +kernel) (by decide +kernel) ?_
            refine ev_r_toL (pc := 156) (i := .lxor) (len := 1) (pc' := 157) (by decide +kernel) rfl ?_
            intro y35
            refine ev_r_toL (pc := 157) (i := .land) (len := 1) (pc' := 158) (by decide +kernel) rfl ?_
            intro y36
            exact hK158 y36 a0 ha0 652 ev_ab_652 s17 _ (by exact e14) (by exact e15)
          · intro c32
            refine ev_r_aload_n (pc := 125) (k := 0) (v := .ref 621) trivial (by decide +kernel) (by exact e14) ?_
            refine ev_r_getC (pc := 126) (y := 102) (ci := 13) (f := 44) (fin := 1) (k' := 652) (by decide +kernel) (by decide +kernel) (by exact ev_ob_621) rfl rfl ?_
            refine ev_r_iload_n (pc := 129) (k := 1) (v := Int32.ofInt a0) (by decide +kernel) (by exact e15) ?_
            refine ev_r_lald (pc := 130) ha0 (by decide +kernel) (by exact ev_ab_652) ?_
            intro y37
            refine ev_r_aload_n (pc := 131) (k := 0) (v := .ref 621) trivial (by decide +kernel) (by exact e14) ?_
            refine ev_r_getC (pc := 132) (y := 108) (ci := 13) (f := 46) (fin := 1) (k' := 654) (by decide +kernel) (by decide +kernel) (by exact ev_ob_621) rfl rfl ?_
            refine ev_r_iload_n (pc := 135) (k := 1) (v := Int32.ofInt a0) (by decide +kernel) (by exact e15) ?_
            refine ev_r_lald (pc := 136) ha0 (by decide +kernel) (by exact ev_ab_654) ?_
            intro y38
            refine ev_r_toL (pc := 137) (i := .land) (len := 1) (pc' := 138) (by decide +kernel) rfl ?_
            intro y39
            refine ev_r_goto (pc := 138) (o := 20) (t := 158) (by decide +kernel) (by decide +kernel) ?_
            exact hK158 y39 a0 ha0 652 ev_ab_652 s17 _ (by exact e14) (by exact e15)
        · intro c30
          refine ev_r_aload_n (pc := 106) (k := 0) (v := .ref 621) trivial (by decide +kernel) (by exact e14) ?_
          refine ev_r_getC (pc := 107) (y := 108) (ci := 13) (f := 46) (fin := 1) (k' := 654) (by decide +kernel) (by decide +kernel) (by exact ev_ob_621) rfl rfl ?_
          refine ev_r_iload_n (pc := 110) (k := 1) (v := Int32.ofInt a0) (by decide +kernel) (by exact e15) ?_
          refine ev_r_lald (pc := 111) ha0 (by decide +kernel) (by exact ev_ab_654) ?_
          intro y40
          refine ev_r_goto (pc := 112) (o := 46) (t := 158) (by decide +kernel) (by decide +kernel) ?_
          exact hK158 y40 a0 ha0 652 ev_ab_652 s17 _ (by exact e14) (by exact e15)
    · intro K91 hK91
      refine ev_r_if (pc := 36) (q := .ne) (o := 12) (t := 48) (c := x9 ≠ 0) (by decide +kernel) (ev_k_ne hx9 ev_rng0) (by decide +kernel) ?_ ?_
      · intro c41
        refine ev_r_aload_n (pc := 48) (k := 0) (v := .ref 621) trivial (by decide +kernel) (by exact e4) ?_
        refine ev_r_getC (pc := 49) (y := 117) (ci := 13) (f := 49) (fin := 1) (k' := 657) (by decide +kernel) (by decide +kernel) (by exact ev_ob_621) rfl rfl ?_
        refine ev_r_iload_n (pc := 52) (k := 1) (v := Int32.ofInt a0) (by decide +kernel) (by exact e5) ?_
        refine ev_r_iald (pc := 53) ha0 (by decide +kernel) (by exact ev_ab_657) ?_
        intro x42 hx42
        refine ev_r_iconst (pc := 54) (k := 1) (by decide +kernel) ?_
        refine ev_r_icmp (pc := 55) (q := .ne) (o := 19) (t := 74) (c := x42 ≠ 1) (by decide +kernel) (ev_k_ne hx42 (by decide)) (by decide +kernel) ?_ ?_
        · intro c43
          refine ev_r_aload_n (pc := 74) (k := 0) (v := .ref 621) trivial (by decide +kernel) (by exact e4) ?_
          refine ev_r_getC (pc := 75) (y := 99) (ci := 13) (f := 43) (fin := 1) (k' := 651) (by decide +kernel) (by decide +kernel) (by exact ev_ob_621) rfl rfl ?_
          refine ev_r_iload_n (pc := 78) (k := 1) (v := Int32.ofInt a0) (by decide +kernel) (by exact e5) ?_
          refine ev_r_lald (pc := 79) ha0 (by decide +kernel) (by exact ev_ab_651) ?_
          intro y44
          refine ev_r_aload_n (pc := 80) (k := 0) (v := .ref 621) trivial (by decide +kernel) (by exact e4) ?_
          refine ev_r_getC (pc := 81) (y := 105) (ci := 13) (f := 45) (fin := 1) (k' := 653) (by decide +kernel) (by decide +kernel) (by exact ev_ob_621) rfl rfl ?_
          refine ev_r_iload_n (pc := 84) (k := 1) (v := Int32.ofInt a0) (by decide +kernel) (by exact e5) ?_
          refine ev_r_lald (pc := 85) ha0 (by decide +kernel) (by exact ev_ab_653) ?_
          intro y45
          refine ev_r_ldc2 (pc := 86) (y := 407) (k := -1) (by decide +kernel) (by decide +kernel) ?_
          refine ev_r_toL (pc := 89) (i := .lxor) (len := 1) (pc' := 90) (by decide +kernel) rfl ?_
          intro y46
          refine ev_r_toL (pc := 90) (i := .land) (len := 1) (pc' := 91) (by decide +kernel) rfl ?_
          intro y47
          exact hK91 y47 a0 ha0 651 ev_ab_651 s7 _ (by exact e4) (by exact e5)
        · intro c43
          refine ev_r_aload_n (pc := 58) (k := 0) (v := .ref 621) trivial (by decide +kernel) (by exact e4) ?_
          refine ev_r_getC (pc := 59) (y := 99) (ci := 13) (f := 43) (fin := 1) (k' := 651) (by decide +kernel) (by decide +kernel) (by exact ev_ob_621) rfl rfl ?_
          refine ev_r_iload_n (pc := 62) (k := 1) (v := Int32.ofInt a0) (by decide +kernel) (by exact e5) ?_
          refine ev_r_lald (pc := 63) ha0 (by decide +kernel) (by exact ev_ab_651) ?_
          intro y48
          refine ev_r_aload_n (pc := 64) (k := 0) (v := .ref 621) trivial (by decide +kernel) (by exact e4) ?_
          refine ev_r_getC (pc := 65) (y := 105) (ci := 13) (f := 45) (fin := 1) (k' := 653) (by decide +kernel) (by decide +kernel) (by exact ev_ob_621) rfl rfl ?_
          refine ev_r_iload_n (pc := 68) (k := 1) (v := Int32.ofInt a0) (by decide +kernel) (by exact e5) ?_
          refine ev_r_lald (pc := 69) ha0 (by decide +kernel) (by exact ev_ab_653) ?_
          intro y49
          refine ev_r_toL (pc := 70) (i := .land) (len := 1) (pc' := 71) (by decide +kernel) rfl ?_
          intro y50
          refine ev_r_goto (pc := 71) (o := 20) (t := 91) (by decide +kernel) (by decide +kernel) ?_
          exact hK91 y50 a0 ha0 651 ev_ab_651 s7 _ (by exact e4) (by exact e5)
      · intro c41
        refine ev_r_aload_n (pc := 39) (k := 0) (v := .ref 621) trivial (by decide +kernel) (by exact e4) ?_
        refine ev_r_getC (pc := 40) (y := 105) (ci := 13) (f := 45) (fin := 1) (k' := 653) (by decide +kernel) (by decide +kernel) (by exact ev_ob_621) rfl rfl ?_
        refine ev_r_iload_n (pc := 43) (k := 1) (v := Int32.ofInt a0) (by decide +kernel) (by exact e5) ?_
        refine ev_r_lald (pc := 44) ha0 (by decide +kernel) (by exact ev_ab_653) ?_
        intro y51
        refine ev_r_goto (pc := 45) (o := 46) (t := 91) (by decide +kernel) (by decide +kernel) ?_
        exact hK91 y51 a0 ha0 651 ev_ab_651 s7 _ (by exact e4) (by exact e5)
  · intro K22 hK22
    refine ev_r_jn (Q := fun K => ∀ (s55 : ev_St) (w52 : List (Nat × Value)), ev_lk w52 0 = some (.ref 621) → ev_lk w52 1 = some (.int (Int32.ofInt a0)) → ev_w none (ev_Mof 248) d 17 w52 [.ref 621] s55 (K  s55) ev_eU ev_PU) ?_ ?_
    · intro  s55 w52 e53 e54
      refine ev_r_iconst (pc := 17) (k := 1) (by decide +kernel) ?_
      refine ev_r_goto (pc := 18) (o := 4) (t := 22) (by decide +kernel) (by decide +kernel) ?_
      exact hK22 1 (by decide) s55 _ (by exact e53) (by exact e54)
    · intro K17 hK17
      refine ev_r_if (pc := 5) (q := .ne) (o := 12) (t := 17) (c := x1 ≠ 0) (by decide +kernel) (ev_k_ne hx1 ev_rng0) (by decide +kernel) ?_ ?_
      · intro c56
        exact hK17  S _ (by rfl) (by rfl)
      · intro c56
        refine ev_r_aload_n (pc := 8) (k := 0) (v := .ref 621) trivial (by decide +kernel) (by rfl) ?_
        refine ev_r_getC (pc := 9) (y := 114) (ci := 13) (f := 48) (fin := 1) (k' := 656) (by decide +kernel) (by decide +kernel) (by exact ev_ob_621) rfl rfl ?_
        refine ev_r_iload_n (pc := 12) (k := 1) (v := Int32.ofInt a0) (by decide +kernel) (by rfl) ?_
        refine ev_r_bald (pc := 13) (ty := .boolean) (Or.inr rfl) ha0 (by decide +kernel) (by exact ev_ab_656) ?_
        intro x57 hx57
        refine ev_r_if (pc := 14) (q := .ne) (o := 7) (t := 21) (c := x57 ≠ 0) (by decide +kernel) (ev_k_ne hx57 ev_rng0) (by decide +kernel) ?_ ?_
        · intro c58
          refine ev_r_iconst (pc := 21) (k := 0) (by decide +kernel) ?_
          exact hK22 0 (by decide) S _ (by rfl) (by rfl)
        · intro c58
          exact hK17  S _ (by rfl) (by rfl)
/-- MendBenchModel.takes(I)V -/
def jm_249 (Q : Nat) (a0 : Int) (S : ev_St) : Option ((Unit) × ev_St) := ev_if ((0 : Int) ≤ a0 ∧ a0 < (ev_aln 653 : Int)) (ev_b (S.2.1 653 (Int.toNat a0)) fun y1 => ev_b (S.2.1 621 41) fun y2 => ev_b (y1 ||| y2) fun y3 => ev_if ((0 : Int) ≤ a0 ∧ a0 < (ev_aln 653 : Int)) (ev_b (ev_pL S 653 (Int.toNat a0) y3) fun s4 => ev_if ((0 : Int) ≤ a0 ∧ a0 < (ev_aln 654 : Int)) (ev_b (s4.2.1 654 (Int.toNat a0)) fun y5 => ev_b (s4.2.1 621 42) fun y6 => ev_b (y5 ||| y6) fun y7 => ev_if ((0 : Int) ≤ a0 ∧ a0 < (ev_aln 654 : Int)) (ev_b (ev_pL s4 654 (Int.toNat a0) y7) fun s8 => ev_if ((0 : Int) ≤ a0 ∧ a0 < (ev_aln 656 : Int)) (ev_b (ev_pI s8 656 (Int.toNat a0) 1) fun s9 => some ((), s9))))))
theorem jt_249 (d : Nat) (hd : 1 ≤ d) (Q : Nat) (a0 : Int) (ha0 : ev_rng a0) (S : ev_St) (x : Unit) (S' : ev_St) (hJ : jm_249 Q a0 S = some (x, S')) : ev_Ref d 249 [.ref 621, .int (Int32.ofInt a0)] S (ev_eU x) S' (ev_PU x) := by
  obtain ⟨d, rfl⟩ : ∃ e, d = e + 1 := ⟨d - 1, by omega⟩
  refine ev_ref_of (P := ev_PU) (lv := [(0, .ref 621), (1, .int (Int32.ofInt a0))]) (by decide +kernel) (by (try simp only [ev_sum, ev_nv_cat]); first | done | rfl) (by (try simp only [lv_args, ev_nv_cat]); first | done | rfl) ?_ x S' hJ
  unfold jm_249
  refine ev_r_aload_n (pc := 0) (k := 0) (v := .ref 621) trivial (by decide +kernel) (by rfl) ?_
  refine ev_r_getC (pc := 1) (y := 105) (ci := 13) (f := 45) (fin := 1) (k' := 653) (by decide +kernel) (by decide +kernel) (by exact ev_ob_621) rfl rfl ?_
  refine ev_r_iload_n (pc := 4) (k := 1) (v := Int32.ofInt a0) (by decide +kernel) (by rfl) ?_
  refine ev_r_dup2 (pc := 5) rfl rfl (by decide +kernel) ?_
  refine ev_r_lald (pc := 6) ha0 (by decide +kernel) (by exact ev_ab_653) ?_
  intro y1
  refine ev_r_aload_n (pc := 7) (k := 0) (v := .ref 621) trivial (by decide +kernel) (by rfl) ?_
  refine ev_r_getL (pc := 8) (y := 394) (ci := 13) (f := 41) (fin := 0) (by decide +kernel) (by decide +kernel) (by exact ev_ob_621) rfl ?_
  intro y2
  refine ev_r_toL (pc := 11) (i := .lor) (len := 1) (pc' := 12) (by decide +kernel) rfl ?_
  intro y3
  refine ev_r_last (pc := 12) ha0 (by decide +kernel) (by exact ev_ab_653) ?_
  intro s4
  refine ev_r_aload_n (pc := 13) (k := 0) (v := .ref 621) trivial (by decide +kernel) (by rfl) ?_
  refine ev_r_getC (pc := 14) (y := 108) (ci := 13) (f := 46) (fin := 1) (k' := 654) (by decide +kernel) (by decide +kernel) (by exact ev_ob_621) rfl rfl ?_
  refine ev_r_iload_n (pc := 17) (k := 1) (v := Int32.ofInt a0) (by decide +kernel) (by rfl) ?_
  refine ev_r_dup2 (pc := 18) rfl rfl (by decide +kernel) ?_
  refine ev_r_lald (pc := 19) ha0 (by decide +kernel) (by exact ev_ab_654) ?_
  intro y5
  refine ev_r_aload_n (pc := 20) (k := 0) (v := .ref 621) trivial (by decide +kernel) (by rfl) ?_
  refine ev_r_getL (pc := 21) (y := 398) (ci := 13) (f := 42) (fin := 0) (by decide +kernel) (by decide +kernel) (by exact ev_ob_621) rfl ?_
  intro y6
  refine ev_r_toL (pc := 24) (i := .lor) (len := 1) (pc' := 25) (by decide +kernel) rfl ?_
  intro y7
  refine ev_r_last (pc := 25) ha0 (by decide +kernel) (by exact ev_ab_654) ?_
  intro s8
  refine ev_r_aload_n (pc := 26) (k := 0) (v := .ref 621) trivial (by decide +kernel) (by rfl) ?_
  refine ev_r_getC (pc := 27) (y := 114) (ci := 13) (f := 48) (fin := 1) (k' := 656) (by decide +kernel) (by decide +kernel) (by exact ev_ob_621) rfl rfl ?_
  refine ev_r_iload_n (pc := 30) (k := 1) (v := Int32.ofInt a0) (by decide +kernel) (by rfl) ?_
  refine ev_r_iconst (pc := 31) (k := 1) (by decide +kernel) ?_
  refine ev_r_bast (pc := 32) (ty := .boolean) (Or.inr rfl) (ev_nar_bl (by decide : ev_bl 1)) (by decide) ha0 (by decide +kernel) (by exact ev_ab_656) ?_
  intro s9
  exact ev_r_return (pc := 33) (x := ()) trivial (by decide +kernel) (by decide +kernel) rfl
/-- MendBenchModel.single(I)I -/
def jm_250 (Q : Nat) (a0 : Int) (S : ev_St) : Option ((Int) × ev_St) := ev_bd (jm_233 Q a0 S) fun x2 s1 => ev_ck (a0 + 1) fun x3 => ev_bd (jm_233 Q x3 s1) fun x5 s4 => if x2 ≠ 92 then (if x2 = (-1) then (some (0, s4)) else (if x2 = 91 then (some (0, s4)) else (if x2 = 93 then (some (0, s4)) else (if x2 = 45 then (some (0, s4)) else (if x2 ≠ 38 then (some (1, s4)) else (if x5 ≠ 38 then (some (1, s4)) else (some (0, s4)))))))) else (if x5 = 110 then (some (2, s4)) else (ev_bd (jm_228 Q x5 s4) fun x15 s14 => if x15 = 0 then (some (0, s14)) else (some (2, s14))))
theorem jt_250 (d : Nat) (hd : 5 ≤ d) (Q : Nat) (a0 : Int) (ha0 : ev_rng a0) (S : ev_St) (x : Int) (S' : ev_St) (hJ : jm_250 Q a0 S = some (x, S')) : ev_Ref d 250 [.ref 621, .int (Int32.ofInt a0)] S (ev_eI x) S' (ev_rng x) := by
  obtain ⟨d, rfl⟩ : ∃ e, d = e + 1 := ⟨d - 1, by omega⟩
  refine ev_ref_of (P := ev_rng) (lv := [(0, .ref 621), (1, .int (Int32.ofInt a0))]) (by decide +kernel) (by (try simp only [ev_sum, ev_nv_cat]); first | done | rfl) (by (try simp only [lv_args, ev_nv_cat]); first | done | rfl) ?_ x S' hJ
  unfold jm_250
  refine ev_r_aload_n (pc := 0) (k := 0) (v := .ref 621) trivial (by decide +kernel) (by rfl) ?_
  refine ev_r_iload_n (pc := 1) (k := 1) (v := Int32.ofInt a0) (by decide +kernel) (by rfl) ?_
  refine ev_r_virt (pc := 2) (y := 409) (mi := 233) (na := 1) (k := 621) (as := [.int (Int32.ofInt a0)]) (rest := []) (encc := ev_oI) (Q := ev_rng) (fun x S1 h => jt_233 d (by omega) Q a0 ha0 S x S1 h) (by exact ev_ob_621) (by decide +kernel) (by decide +kernel) (by decide +kernel) (by decide +kernel) rfl (by (try simp only [ev_sum, ev_nv_cat]); first | done | rfl) ?_
  intro x2 s1 hx2
  show ev_w _ _ _ _ _ [.int (Int32.ofInt x2)] _ _ _ _
  refine ev_r_istore_n (pc := 5) (k := 2) (by decide +kernel) (by decide +kernel) rfl ?_
  refine ev_r_aload_n (pc := 6) (k := 0) (v := .ref 621) trivial (by decide +kernel) (by exact (ev_l1 (by rfl) (by decide) (by decide))) ?_
  refine ev_r_iload_n (pc := 7) (k := 1) (v := Int32.ofInt a0) (by decide +kernel) (by exact (ev_lk_st1 (by rfl) (by decide) rfl)) ?_
  refine ev_r_iconst (pc := 8) (k := 1) (by decide +kernel) ?_
  refine ev_r_iadd (pc := 9) (by decide +kernel) ?_
  intro x3 hx3
  refine ev_r_virt (pc := 10) (y := 409) (mi := 233) (na := 1) (k := 621) (as := [.int (Int32.ofInt x3)]) (rest := []) (encc := ev_oI) (Q := ev_rng) (fun x S1 h => jt_233 d (by omega) Q x3 hx3 s1 x S1 h) (by exact ev_ob_621) (by decide +kernel) (by decide +kernel) (by decide +kernel) (by decide +kernel) rfl (by (try simp only [ev_sum, ev_nv_cat]); first | done | rfl) ?_
  intro x5 s4 hx5
  show ev_w _ _ _ _ _ [.int (Int32.ofInt x5)] _ _ _ _
  refine ev_r_istore_n (pc := 13) (k := 3) (by decide +kernel) (by decide +kernel) rfl ?_
  refine ev_r_iload_n (pc := 14) (k := 2) (v := Int32.ofInt x2) (by decide +kernel) (by exact (ev_lk_st1 ev_lk_st1_self (by decide) rfl)) ?_
  refine ev_r_bipush (pc := 15) (k := 92) (by decide +kernel) (by decide +kernel) ?_
  refine ev_r_icmp (pc := 17) (q := .ne) (o := 22) (t := 39) (c := x2 ≠ 92) (by decide +kernel) (ev_k_ne hx2 (by decide)) (by decide +kernel) ?_ ?_
  · intro c6
    refine ev_r_iload_n (pc := 39) (k := 2) (v := Int32.ofInt x2) (by decide +kernel) (by exact (ev_lk_st1 ev_lk_st1_self (by decide) rfl)) ?_
    refine ev_r_iconst (pc := 40) (k := -1) (by decide +kernel) ?_
    refine ev_r_icmp (pc := 41) (q := .eq) (o := 33) (t := 74) (c := x2 = (-1)) (by decide +kernel) (ev_k_eq hx2 (by decide)) (by decide +kernel) ?_ ?_
    · intro c7
      refine ev_r_iconst (pc := 74) (k := 0) (by decide +kernel) ?_
      refine ev_r_goto (pc := 75) (o := 4) (t := 79) (by decide +kernel) (by decide +kernel) ?_
      exact ev_r_ireturn (pc := 79) (x := 0) (v := Int32.ofInt 0) (ty := .int) (by decide) (by decide +kernel) (by decide +kernel) rfl rfl
    · intro c7
      refine ev_r_iload_n (pc := 44) (k := 2) (v := Int32.ofInt x2) (by decide +kernel) (by exact (ev_lk_st1 ev_lk_st1_self (by decide) rfl)) ?_
      refine ev_r_bipush (pc := 45) (k := 91) (by decide +kernel) (by decide +kernel) ?_
      refine ev_r_icmp (pc := 47) (q := .eq) (o := 27) (t := 74) (c := x2 = 91) (by decide +kernel) (ev_k_eq hx2 (by decide)) (by decide +kernel) ?_ ?_
      · intro c8
        refine ev_r_iconst (pc := 74) (k := 0) (by decide +kernel) ?_
        refine ev_r_goto (pc := 75) (o := 4) (t := 79) (by decide +kernel) (by decide +kernel) ?_
        exact ev_r_ireturn (pc := 79) (x := 0) (v := Int32.ofInt 0) (ty := .int) (by decide) (by decide +kernel) (by decide +kernel) rfl rfl
      · intro c8
        refine ev_r_iload_n (pc := 50) (k := 2) (v := Int32.ofInt x2) (by decide +kernel) (by exact (ev_lk_st1 ev_lk_st1_self (by decide) rfl)) ?_
        refine ev_r_bipush (pc := 51) (k := 93) (by decide +kernel) (by decide +kernel) ?_
        refine ev_r_icmp (pc := 53) (q := .eq) (o := 21) (t := 74) (c := x2 = 93) (by decide +kernel) (ev_k_eq hx2 (by decide)) (by decide +kernel) ?_ ?_
        · intro c9
          refine ev_r_iconst (pc := 74) (k := 0) (by decide +kernel) ?_
          refine ev_r_goto (pc := 75) (o := 4) (t := 79) (by decide +kernel) (by decide +kernel) ?_
          exact ev_r_ireturn (pc := 79) (x := 0) (v := Int32.ofInt 0) (ty := .int) (by decide) (by decide +kernel) (by decide +kernel) rfl rfl
        · intro c9
          refine ev_r_iload_n (pc := 56) (k := 2) (v := Int32.ofInt x2) (by decide +kernel) (by exact (ev_lk_st1 ev_lk_st1_self (by decide) rfl)) ?_
          refine ev_r_bipush (pc := 57) (k := 45) (by decide +kernel) (by decide +kernel) ?_
          refine ev_r_icmp (pc := 59) (q := .eq) (o := 15) (t := 74) (c := x2 = 45) (by decide +kernel) (ev_k_eq hx2 (by decide)) (by decide +kernel) ?_ ?_
          · intro c10
            refine ev_r_iconst (pc := 74) (k := 0) (by decide +kernel) ?_
            refine ev_r_goto (pc := 75) (o := 4) (t := 79) (by decide +kernel) (by decide +kernel) ?_
            exact ev_r_ireturn (pc := 79) (x := 0) (v := Int32.ofInt 0) (ty := .int) (by decide) (by decide +kernel) (by decide +kernel) rfl rfl
          · intro c10
            refine ev_r_iload_n (pc := 62) (k := 2) (v := Int32.ofInt x2) (by decide +kernel) (by exact (ev_lk_st1 ev_lk_st1_self (by decide) rfl)) ?_
            refine ev_r_bipush (pc := 63) (k := 38) (by decide +kernel) (by decide +kernel) ?_
            refine ev_r_icmp (pc := 65) (q := .ne) (o := 13) (t := 78) (c := x2 ≠ 38) (by decide +kernel) (ev_k_ne hx2 (by decide)) (by decide +kernel) ?_ ?_
            · intro c11
              refine ev_r_iconst (pc := 78) (k := 1) (by decide +kernel) ?_
              exact ev_r_ireturn (pc := 79) (x := 1) (v := Int32.ofInt 1) (ty := .int) (by decide) (by decide +kernel) (by decide +kernel) rfl rfl
            · intro c11
              refine ev_r_iload_n (pc := 68) (k := 3) (v := Int32.ofInt x5) (by decide +kernel) (by exact ev_lk_st1_self) ?_
              refine ev_r_bipush (pc := 69) (k := 38) (by decide +kernel) (by decide +kernel) ?_
              refine ev_r_icmp (pc := 71) (q := .ne) (o := 7) (t := 78) (c := x5 ≠ 38) (by decide +kernel) (ev_k_ne hx5 (by decide)) (by decide +kernel) ?_ ?_
              · intro c12
                refine ev_r_iconst (pc := 78) (k := 1) (by decide +kernel) ?_
                exact ev_r_ireturn (pc := 79) (x := 1) (v := Int32.ofInt 1) (ty := .int) (by decide) (by decide +kernel) (by decide +kernel) rfl rfl
              · intro c12
                refine ev_r_iconst (pc := 74) (k := 0) (by decide +kernel) ?_
                refine ev_r_goto (pc := 75) (o := 4) (t := 79) (by decide +kernel) (by decide +kernel) ?_
                exact ev_r_ireturn (pc := 79) (x := 0) (v := Int32.ofInt 0) (ty := .int) (by decide) (by decide +kernel) (by decide +kernel) rfl rfl
  · intro c6
    refine ev_r_iload_n (pc := 20) (k := 3) (v := Int32.ofInt x5) (by decide +kernel) (by exact ev_lk_st1_self) ?_
    refine ev_r_bipush (pc := 21) (k := 110) (by decide +kernel) (by decide +kernel) ?_
    refine ev_r_icmp (pc := 23) (q := .eq) (o := 10) (t := 33) (c := x5 = 110) (by decide +kernel) (ev_k_eq hx5 (by decide)) (by decide +kernel) ?_ ?_
    · intro c13
      refine ev_r_iconst (pc := 33) (k := 2) (by decide +kernel) ?_
      refine ev_r_goto (pc := 34) (o := 4) (t := 38) (by decide +kernel) (by decide +kernel) ?_
      exact ev_r_ireturn (pc := 38) (x := 2) (v := Int32.ofInt 2) (ty := .int) (by decide) (by decide +kernel) (by decide +kernel) rfl rfl
    · intro c13
      refine ev_r_iload_n (pc := 26) (k := 3) (v := Int32.ofInt x5) (by decide +kernel) (by exact ev_lk_st1_self) ?_
      refine ev_r_stat (pc := 27) (y := 412) (kind := 2) (mi := 228) (na := 1) (as := [.int (Int32.ofInt x5)]) (rest := []) (encc := ev_oI) (Q := ev_bl) (fun x S1 h => jt_228 d (by omega) Q x5 hx5 s4 x S1 h) (Or.inl rfl) (by decide +kernel) (by decide +kernel) (by decide +kernel) (by decide +kernel) rfl (by (try simp only [ev_sum, ev_nv_cat]); first | done | rfl) ?_
      intro x15 s14 hx15
      replace hx15 := ev_bl_rng hx15
      show ev_w _ _ _ _ _ [.int (Int32.ofInt x15)] _ _ _ _
      refine ev_r_if (pc := 30) (q := .eq) (o := 7) (t := 37) (c := x15 = 0) (by decide +kernel) (ev_k_eq hx15 ev_rng0) (by decide +kernel) ?_ ?_
      · intro c16
        refine ev_r_iconst (pc := 37) (k := 0) (by decide +kernel) ?_
        exact ev_r_ireturn (pc := 38) (x := 0) (v := Int32.ofInt 0) (ty := .int) (by decide) (by decide +kernel) (by decide +kernel) rfl rfl
      · intro c16
        refine ev_r_iconst (pc := 33) (k := 2) (by decide +kernel) ?_
        refine ev_r_goto (pc := 34) (o := 4) (t := 38) (by decide +kernel) (by decide +kernel) ?_
        exact ev_r_ireturn (pc := 38) (x := 2) (v := Int32.ofInt 2) (ty := .int) (by decide) (by decide +kernel) (by decide +kernel) rfl rfl
/-- MendBenchModel.singleAt(I)I -/
def jm_251 (Q : Nat) (a0 : Int) (S : ev_St) : Option ((Int) × ev_St) := ev_ck (a0 + 1) fun x1 => ev_bd (jm_233 Q x1 S) fun x3 s2 => ev_bd (jm_233 Q a0 s2) fun x5 s4 => if x5 = 92 then (if x3 ≠ 110 then (some (x3, s4)) else (some (10, s4))) else (ev_bd (jm_233 Q a0 s4) fun x9 s8 => some (x9, s8))
theorem jt_251 (d : Nat) (hd : 2 ≤ d) (Q : Nat) (a0 : Int) (ha0 : ev_rng a0) (S : ev_St) (x : Int) (S' : ev_St) (hJ : jm_251 Q a0 S = some (x, S')) : ev_Ref d 251 [.ref 621, .int (Int32.ofInt a0)] S (ev_eI x) S' (ev_rng x) := by
  obtain ⟨d, rfl⟩ : ∃ e, d = e + 1 := ⟨d - 1, by omega⟩
  refine ev_ref_of (P := ev_rng) (lv := [(0, .ref 621), (1, .int (Int32.ofInt a0))]) (by decide +kernel) (by (try simp only [ev_sum, ev_nv_cat]); first | done | rfl) (by (try simp only [lv_args, ev_nv_cat]); first | done | rfl) ?_ x S' hJ
  unfold jm_251
  refine ev_r_aload_n (pc := 0) (k := 0) (v := .ref 621) trivial (by decide +kernel) (by rfl) ?_
  refine ev_r_iload_n (pc := 1) (k := 1) (v := Int32.ofInt a0) (by decide +kernel) (by rfl) ?_
  refine ev_r_iconst (pc := 2) (k := 1) (by decide +kernel) ?_
  refine ev_r_iadd (pc := 3) (by decide +kernel) ?_
  intro x1 hx1
  refine ev_r_virt (pc := 4) (y := 409) (mi := 233) (na := 1) (k := 621) (as := [.int (Int32.ofInt x1)]) (rest := []) (encc := ev_oI) (Q := ev_rng) (fun x S1 h => jt_233 d (by omega) Q x1 hx1 S x S1 h) (by exact ev_ob_621) (by decide +kernel) (by decide +kernel) (by decide +kernel) (by decide +kernel) rfl (by (try simp only [ev_sum, ev_nv_cat]); first | done | rfl) ?_
  intro x3 s2 hx3
  show ev_w _ _ _ _ _ [.int (Int32.ofInt x3)] _ _ _ _
  refine ev_r_istore_n (pc := 7) (k := 2) (by decide +kernel) (by decide +kernel) rfl ?_
  refine ev_r_aload_n (pc := 8) (k := 0) (v := .ref 621) trivial (by decide +kernel) (by exact (ev_l1 (by rfl) (by decide) (by decide))) ?_
  refine ev_r_iload_n (pc := 9) (k := 1) (v := Int32.ofInt a0) (by decide +kernel) (by exact (ev_lk_st1 (by rfl) (by decide) rfl)) ?_
  refine ev_r_virt (pc := 10) (y := 409) (mi := 233) (na := 1) (k := 621) (as := [.int (Int32.ofInt a0)]) (rest := []) (encc := ev_oI) (Q := ev_rng) (fun x S1 h => jt_233 d (by omega) Q a0 ha0 s2 x S1 h) (by exact ev_ob_621) (by decide +kernel) (by decide +kernel) (by decide +kernel) (by decide +kernel) rfl (by (try simp only [ev_sum, ev_nv_cat]); first | done | rfl) ?_
  intro x5 s4 hx5
  show ev_w _ _ _ _ _ [.int (Int32.ofInt x5)] _ _ _ _
  refine ev_r_bipush (pc := 13) (k := 92) (by decide +kernel) (by decide +kernel) ?_
  refine ev_r_icmp (pc := 15) (q := .eq) (o := 11) (t := 26) (c := x5 = 92) (by decide +kernel) (ev_k_eq hx5 (by decide)) (by decide +kernel) ?_ ?_
  · intro c6
    refine ev_r_iload_n (pc := 26) (k := 2) (v := Int32.ofInt x3) (by decide +kernel) (by exact ev_lk_st1_self) ?_
    refine ev_r_bipush (pc := 27) (k := 110) (by decide +kernel) (by decide +kernel) ?_
    refine ev_r_icmp (pc := 29) (q := .ne) (o := 8) (t := 37) (c := x3 ≠ 110) (by decide +kernel) (ev_k_ne hx3 (by decide)) (by decide +kernel) ?_ ?_
    · intro c7
      refine ev_r_iload_n (pc := 37) (k := 2) (v := Int32.ofInt x3) (by decide +kernel) (by exact ev_lk_st1_self) ?_
      exact ev_r_ireturn (pc := 38) (x := x3) (v := Int32.ofInt x3) (ty := .int) hx3 (by decide +kernel) (by decide +kernel) rfl rfl
    · intro c7
      refine ev_r_bipush (pc := 32) (k := 10) (by decide +kernel) (by decide +kernel) ?_
      refine ev_r_goto (pc := 34) (o := 4) (t := 38) (by decide +kernel) (by decide +kernel) ?_
      exact ev_r_ireturn (pc := 38) (x := 10) (v := Int32.ofInt 10) (ty := .int) (by decide) (by decide +kernel) (by decide +kernel) rfl rfl
  · intro c6
    refine ev_r_aload_n (pc := 18) (k := 0) (v := .ref 621) trivial (by decide +kernel) (by exact (ev_l1 (by rfl) (by decide) (by decide))) ?_
    refine ev_r_iload_n (pc := 19) (k := 1) (v := Int32.ofInt a0) (by decide +kernel) (by exact (ev_lk_st1 (by rfl) (by decide) rfl)) ?_
    refine ev_r_virt (pc := 20) (y := 409) (mi := 233) (na := 1) (k := 621) (as := [.int (Int32.ofInt a0)]) (rest := []) (encc := ev_oI) (Q := ev_rng) (fun x S1 h => jt_233 d (by omega) Q a0 ha0 s4 x S1 h) (by exact ev_ob_621) (by decide +kernel) (by decide +kernel) (by decide +kernel) (by decide +kernel) rfl (by (try simp only [ev_sum, ev_nv_cat]); first | done | rfl) ?_
    intro x9 s8 hx9
    show ev_w _ _ _ _ _ [.int (Int32.ofInt x9)] _ _ _ _
    refine ev_r_goto (pc := 23) (o := 15) (t := 38) (by decide +kernel) (by decide +kernel) ?_
    exact ev_r_ireturn (pc := 38) (x := x9) (v := Int32.ofInt x9) (ty := .int) hx9 (by decide +kernel) (by decide +kernel) rfl rfl
/-- MendBenchModel.beginsClass(I)V -/
def jm_252 (Q : Nat) (a0 : Int) (S : ev_St) : Option ((Unit) × ev_St) := ev_bd (jm_234 Q 1 S) fun _ s1 => ev_bd (jm_233 Q 0 s1) fun x3 s2 => ev_jn (fun (x6 : Int) (x5 : Int) (r4 : Nat) (s10 : ev_St) => ev_if (ev_bl x6) (ev_if ((0 : Int) ≤ x5 ∧ x5 < (ev_aln r4 : Int)) (ev_b (ev_pI s10 r4 (Int.toNat x5) x6) fun s11 => ev_if ((0 : Int) ≤ a0 ∧ a0 < (ev_aln 655 : Int)) (ev_b (s11.1 655 (Int.toNat a0)) fun x13 => ev_jn (fun (x14 : Int) (s18 : ev_St) => ev_bd (jm_234 Q x14 s18) fun _ s19 => ev_if ((0 : Int) ≤ a0 ∧ a0 < (ev_aln 657 : Int)) (ev_b (ev_pI s19 657 (Int.toNat a0) 0) fun s20 => ev_if ((0 : Int) ≤ a0 ∧ a0 < (ev_aln 653 : Int)) (ev_b (ev_pL s20 653 (Int.toNat a0) ((Int64.ofNat ((0 : Fin 2) : Nat)))) fun s21 => ev_if ((0 : Int) ≤ a0 ∧ a0 < (ev_aln 654 : Int)) (ev_b (ev_pL s21 654 (Int.toNat a0) ((Int64.ofNat ((0 : Fin 2) : Nat)))) fun s22 => ev_if ((0 : Int) ≤ a0 ∧ a0 < (ev_aln 656 : Int)) (ev_b (ev_pI s22 656 (Int.toNat a0) 0) fun s23 => some ((), s23)))))) fun K41 => if x13 = 0 then (K41 0 s11) else (K41 1 s11))))) fun K25 => if x3 ≠ 94 then (K25 0 a0 655 s2) else (K25 1 a0 655 s2)
theorem jt_252 (d : Nat) (hd : 2 ≤ d) (Q : Nat) (a0 : Int) (ha0 : ev_rng a0) (S : ev_St) (x : Unit) (S' : ev_St) (hJ : jm_252 Q a0 S = some (x, S')) : ev_Ref d 252 [.ref 621, .int (Int32.ofInt a0)] S (ev_eU x) S' (ev_PU x) := by
  obtain ⟨d, rfl⟩ : ∃ e, d = e + 1 := ⟨d - 1, by omega⟩
  refine ev_ref_of (P := ev_PU) (lv := [(0, .ref 621), (1, .int (Int32.ofInt a0))]) (by decide +kernel) (by (try simp only [ev_sum, ev_nv_cat]); first | done | rfl) (by (try simp only [lv_args, ev_nv_cat]); first | done | rfl) ?_ x S' hJ
  unfold jm_252
  refine ev_r_aload_n (pc := 0) (k := 0) (v := .ref 621) trivial (by decide +kernel) (by rfl) ?_
  refine ev_r_iconst (pc := 1) (k := 1) (by decide +kernel) ?_
  refine ev_r_virt (pc := 2) (y := 415) (mi := 234) (na := 1) (k := 621) (as := [.int (Int32.ofInt 1)]) (rest := []) (encc := ev_oU) (Q := ev_PU) (fun x S1 h => jt_234 d (by omega) Q 1 (by decide) S x S1 h) (by exact ev_ob_621) (by decide +kernel) (by decide +kernel) (by decide +kernel) (by decide +kernel) rfl (by (try simp only [ev_sum, ev_nv_cat]); first | done | rfl) ?_
  intro _ s1 _
  show ev_w _ _ _ _ _ [] _ _ _ _
  refine ev_r_aload_n (pc := 5) (k := 0) (v := .ref 621) trivial (by decide +kernel) (by rfl) ?_
  refine ev_r_getC (pc := 6) (y := 111) (ci := 13) (f := 47) (fin := 1) (k' := 655) (by decide +kernel) (by decide +kernel) (by exact ev_ob_621) rfl rfl ?_
  refine ev_r_iload_n (pc := 9) (k := 1) (v := Int32.ofInt a0) (by decide +kernel) (by rfl) ?_
  refine ev_r_aload_n (pc := 10) (k := 0) (v := .ref 621) trivial (by decide +kernel) (by rfl) ?_
  refine ev_r_iconst (pc := 11) (k := 0) (by decide +kernel) ?_
  refine ev_r_virt (pc := 12) (y := 409) (mi := 233) (na := 1) (k := 621) (as := [.int (Int32.ofInt 0)]) (rest := [.int (Int32.ofInt a0), .ref 655]) (encc := ev_oI) (Q := ev_rng) (fun x S1 h => jt_233 d (by omega) Q 0 (by decide) s1 x S1 h) (by exact ev_ob_621) (by decide +kernel) (by decide +kernel) (by decide +kernel) (by decide +kernel) rfl (by (try simp only [ev_sum, ev_nv_cat]); first | done | rfl) ?_
  intro x3 s2 hx3
  show ev_w _ _ _ _ _ [.int (Int32.ofInt x3), .int (Int32.ofInt a0), .ref 655] _ _ _ _
  refine ev_r_bipush (pc := 15) (k := 94) (by decide +kernel) (by decide +kernel) ?_
  refine ev_r_jn (Q := fun K => ∀ (x6 : Int) (hx6 : ev_rng x6), ∀ (x5 : Int) (hx5 : ev_rng x5), ∀ (r4 : Nat) (hr4 : ev_isAb r4 1 .boolean = true), ∀ (s10 : ev_St) (w7 : List (Nat × Value)), ev_lk w7 0 = some (.ref 621) → ev_lk w7 1 = some (.int (Int32.ofInt a0)) → ev_w none (ev_Mof 252) d 25 w7 [.int (Int32.ofInt x6), .int (Int32.ofInt x5), .ref r4] s10 (K x6 x5 r4 s10) ev_eU ev_PU) ?_ ?_
  · intro x6 hx6 x5 hx5 r4 hr4 s10 w7 e8 e9
    refine ev_r_chk ?_
    intro c12
    refine ev_r_bast (pc := 25) (ty := .boolean) (Or.inr rfl) (ev_nar_bl c12) hx6 hx5 (by decide +kernel) (by exact hr4) ?_
    intro s11
    refine ev_r_aload_n (pc := 26) (k := 0) (v := .ref 621) trivial (by decide +kernel) (by exact e8) ?_
    refine ev_r_aload_n (pc := 27) (k := 0) (v := .ref 621) trivial (by decide +kernel) (by exact e8) ?_
    refine ev_r_getC (pc := 28) (y := 111) (ci := 13) (f := 47) (fin := 1) (k' := 655) (by decide +kernel) (by decide +kernel) (by exact ev_ob_621) rfl rfl ?_
    refine ev_r_iload_n (pc := 31) (k := 1) (v := Int32.ofInt a0) (by decide +kernel) (by exact e9) ?_
    refine ev_r_bald (pc := 32) (ty := .boolean) (Or.inr rfl) ha0 (by decide +kernel) (by exact ev_ab_655) ?_
    intro x13 hx13
    refine ev_r_jn (Q := fun K => ∀ (x14 : Int) (hx14 : ev_rng x14), ∀ (s18 : ev_St) (w15 : List (Nat × Value)), ev_lk w15 0 = some (.ref 621) → ev_lk w15 1 = some (.int (Int32.ofInt a0)) → ev_w none (ev_Mof 252) d 41 w15 [.int (Int32.ofInt x14), .ref 621] s18 (K x14 s18) ev_eU ev_PU) ?_ ?_
    · intro x14 hx14 s18 w15 e16 e17
      refine ev_r_virt (pc := 41) (y := 415) (mi := 234) (na := 1) (k := 621) (as := [.int (Int32.ofInt x14)]) (rest := []) (encc := ev_oU) (Q := ev_PU) (fun x S1 h => jt_234 d (by omega) Q x14 hx14 s18 x S1 h) (by exact ev_ob_621) (by decide +kernel) (by decide +kernel) (by decide +kernel) (by decide +kernel) rfl (by (try simp only [ev_sum, ev_nv_cat]); first | done | rfl) ?_
      intro _ s19 _
      show ev_w _ _ _ _ _ [] _ _ _ _
      refine ev_r_aload_n (pc := 44) (k := 0) (v := .ref 621) trivial (by decide +kernel) (by exact e16) ?_
      refine ev_r_getC (pc := 45) (y := 117) (ci := 13) (f := 49) (fin := 1) (k' := 657) (by decide +kernel) (by decide +kernel) (by exact ev_ob_621) rfl rfl ?_
      refine ev_r_iload_n (pc := 48) (k := 1) (v := Int32.ofInt a0) (by decide +kernel) (by exact e17) ?_
      refine ev_r_iconst (pc := 49) (k := 0) (by decide +kernel) ?_
      refine ev_r_iast (pc := 50) (by decide) ha0 (by decide +kernel) (by exact ev_ab_657) ?_
      intro s20
      refine ev_r_aload_n (pc := 51) (k := 0) (v := .ref 621) trivial (by decide +kernel) (by exact e16) ?_
      refine ev_r_getC (pc := 52) (y := 105) (ci := 13) (f := 45) (fin := 1) (k' := 653) (by decide +kernel) (by decide +kernel) (by exact ev_ob_621) rfl rfl ?_
      refine ev_r_iload_n (pc := 55) (k := 1) (v := Int32.ofInt a0) (by decide +kernel) (by exact e17) ?_
      refine ev_r_lconst (pc := 56) (c := 0) (by decide +kernel) ?_
      refine ev_r_last (pc := 57) ha0 (by decide +kernel) (by exact ev_ab_653) ?_
      intro s21
      refine ev_r_aload_n (pc := 58) (k := 0) (v := .ref 621) trivial (by decide +kernel) (by exact e16) ?_
      refine ev_r_getC (pc := 59) (y := 108) (ci := 13) (f := 46) (fin := 1) (k' := 654) (by decide +kernel) (by decide +kernel) (by exact ev_ob_621) rfl rfl ?_
      refine ev_r_iload_n (pc := 62) (k := 1) (v := Int32.ofInt a0) (by decide +kernel) (by exact e17) ?_
      refine ev_r_lconst (pc := 63) (c := 0) (by decide +kernel) ?_
      refine ev_r_last (pc := 64) ha0 (by decide +kernel) (by exact ev_ab_654) ?_
      intro s22
      refine ev_r_aload_n (pc := 65) (k := 0) (v := .ref 621) trivial (by decide +kernel) (by exact e16) ?_
      refine ev_r_getC (pc := 66) (y := 114) (ci := 13) (f := 48) (fin := 1) (k' := 656) (by decide +kernel) (by decide +kernel) (by exact ev_ob_621) rfl rfl ?_
      refine ev_r_iload_n (pc := 69) (k := 1) (v := Int32.ofInt a0) (by decide +kernel) (by exact e17) ?_
      refine ev_r_iconst (pc := 70) (k := 0) (by decide +kernel) ?_
      refine ev_r_bast (pc := 71) (ty := .boolean) (Or.inr rfl) (ev_nar_bl (by decide : ev_bl 0)) (by decide) ha0 (by decide +kernel) (by exact ev_ab_656) ?_
      intro s23
      exact ev_r_return (pc := 72) (x := ()) trivial (by decide +kernel) (by decide +kernel) rfl
    · intro K41 hK41
      refine ev_r_if (pc := 33) (q := .eq) (o := 7) (t := 40) (c := x13 = 0) (by decide +kernel) (ev_k_eq hx13 ev_rng0) (by decide +kernel) ?_ ?_
      · intro c24
        refine ev_r_iconst (pc := 40) (k := 0) (by decide +kernel) ?_
        exact hK41 0 (by decide) s11 _ (by exact e8) (by exact e9)
      · intro c24
        refine ev_r_iconst (pc := 36) (k := 1) (by decide +kernel) ?_
        refine ev_r_goto (pc := 37) (o := 4) (t := 41) (by decide +kernel) (by decide +kernel) ?_
        exact hK41 1 (by decide) s11 _ (by exact e8) (by exact e9)
  · intro K25 hK25
    refine ev_r_icmp (pc := 17) (q := .ne) (o := 7) (t := 24) (c := x3 ≠ 94) (by decide +kernel) (ev_k_ne hx3 (by decide)) (by decide +kernel) ?_ ?_
    · intro c25
      refine ev_r_iconst (pc := 24) (k := 0) (by decide +kernel) ?_
      exact hK25 0 (by decide) a0 ha0 655 ev_ab_655 s2 _ (by rfl) (by rfl)
    · intro c25
      refine ev_r_iconst (pc := 20) (k := 1) (by decide +kernel) ?_
      refine ev_r_goto (pc := 21) (o := 4) (t := 25) (by decide +kernel) (by decide +kernel) ?_
      exact hK25 1 (by decide) a0 ha0 655 ev_ab_655 s2 _ (by rfl) (by rfl)
def jb_253_7 (Q : Nat)   (K7 : Int → ev_St → Option ((Unit) × ev_St)) (x1 : Int) (s5 : ev_St) : Option ((Unit) × ev_St) := if x1 < 0 then (some ((), s5)) else (ev_b (s5.1 621 25) fun x7 => if x7 ≠ 0 then (some ((), s5)) else (ev_bd (jm_233 Q 0 s5) fun x10 s9 => ev_bd (jm_233 Q 1 s9) fun x12 s11 => ev_bd (jm_250 Q 0 s11) fun x14 s13 => ev_jn (fun (x15 : Int) (s19 : ev_St) => K7 x15 s19) fun K369 => if x10 ≠ 93 then (if x10 ≠ 91 then (ev_jn (fun  (s28 : ev_St) => if x14 ≤ 0 then (ev_jn (fun  (s34 : ev_St) => ev_bd (jm_248 Q x1 s34) fun _ s35 => ev_jn (fun (x38 : Int) (x37 : Int) (r36 : Nat) (s42 : ev_St) => ev_if ((0 : Int) ≤ x37 ∧ x37 < (ev_aln r36 : Int)) (ev_b (ev_pI s42 r36 (Int.toNat x37) x38) fun s43 => ev_bd (jm_234 Q 2 s43) fun _ s44 => K369 x1 s44)) fun K355 => if x10 ≠ 38 then (K355 2 x1 657 s35) else (K355 1 x1 657 s35)) fun K334 => ev_jn (fun  (s51 : ev_St) => ev_jn (fun  (s55 : ev_St) => ev_b (ev_pI s55 621 25 1) fun s56 => K369 x1 s56) fun K364 => if x10 ≠ 45 then (K364  s51) else (if x12 ≠ 45 then (K364  s51) else (K334  s51))) fun K322 => if x10 ≠ 38 then (K322  s28) else (if x12 = 38 then (K334  s28) else (K322  s28))) else (ev_bd (jm_251 Q 0 s28) fun x62 s61 => ev_bd (jm_234 Q x14 s61) fun _ s63 => ev_bd (jm_233 Q 0 s63) fun x65 s64 => ev_jn (fun (x66 : Int) (x67 : Int) (s73 : ev_St) => ev_b (s73.1 621 40) fun x74 => ev_b (ev_iand x74 1) fun x75 => ev_jn (fun (x78 : Int) (x77 : Int) (x76 : Int) (s82 : ev_St) => ev_bd (jm_245 Q x76 x77 x78 s82) fun _ s83 => ev_bd (jm_249 Q x1 s83) fun _ s84 => K369 x1 s84) fun K299 => if x75 ≤ 0 then (K299 0 x67 x66 s73) else (K299 1 x67 x66 s73)) fun K280 => if x65 ≠ 45 then (K280 x62 x62 s64) else (ev_bd (jm_233 Q 1 s64) fun x88 s87 => if x88 = 45 then (K280 x62 x62 s87) else (ev_bd (jm_250 Q 1 s87) fun x91 s90 => ev_jn (fun (x92 : Int) (x93 : Int) (s99 : ev_St) => ev_b (s99.1 621 25) fun x100 => ev_jn (fun (x101 : Int) (x102 : Int) (s109 : ev_St) => ev_if (ev_bl x102) (ev_b (ev_pI s109 621 25 x102) fun s110 => ev_ck (1 + x92) fun x112 => ev_bd (jm_234 Q x112 s110) fun _ s113 => K280 x62 x101 s113)) fun K269 => ev_jn (fun (x114 : Int) (s121 : ev_St) => K269 x114 1 s121) fun K264 => if x100 ≠ 0 then (K264 x93 s99) else (if x62 ≤ x93 then (K269 x93 0 s99) else (K264 x93 s99))) fun K247 => if x91 ≤ 0 then (K247 x91 ((-1)) s90) else (ev_bd (jm_251 Q 1 s90) fun x126 s125 => K247 x91 x126 s125))))) fun K184 => if x10 ≠ 92 then (K184  s13) else (ev_bd (jm_247 Q x12 s13) fun x129 s128 => if x129 = 0 then (K184  s128) else (ev_bd (jm_246 Q x12 s128) fun _ s131 => ev_bd (jm_234 Q 2 s131) fun _ s132 => ev_bd (jm_249 Q x1 s132) fun _ s133 => K369 x1 s133))) else (ev_ck (x1 + 1) fun x134 => ev_bd (jm_252 Q x134 s13) fun _ s135 => K369 x134 s135)) else (ev_bd (jm_248 Q x1 s13) fun _ s136 => ev_if ((0 : Int) ≤ x1 ∧ x1 < (ev_aln 655 : Int)) (ev_b (s136.1 655 (Int.toNat x1)) fun x137 => ev_jn (fun (y138 : Int64) (s142 : ev_St) => ev_b (ev_pL s142 621 41 y138) fun s143 => ev_if ((0 : Int) ≤ x1 ∧ x1 < (ev_aln 655 : Int)) (ev_b (s143.1 655 (Int.toNat x1)) fun x144 => ev_jn (fun (y145 : Int64) (s149 : ev_St) => ev_b (ev_pL s149 621 42 y145) fun s150 => ev_bd (jm_234 Q 1 s150) fun _ s151 => ev_ck (x1 + (-1)) fun x152 => if x152 < 0 then (K369 x152 s151) else (ev_bd (jm_249 Q x152 s151) fun _ s154 => K369 x152 s154)) fun K113 => if x144 = 0 then (ev_if ((0 : Int) ≤ x1 ∧ x1 < (ev_aln 652 : Int)) (ev_b (s143.2.1 652 (Int.toNat x1)) fun y156 => K113 y156 s143)) else (ev_if ((0 : Int) ≤ x1 ∧ x1 < (ev_aln 652 : Int)) (ev_b (s143.2.1 652 (Int.toNat x1)) fun y157 => ev_b (y157 ^^^ (-1)) fun y158 => ev_b (y158 &&& (4294967295)) fun y159 => K113 y159 s143)))) fun K77 => if x137 = 0 then (ev_if ((0 : Int) ≤ x1 ∧ x1 < (ev_aln 651 : Int)) (ev_b (s136.2.1 651 (Int.toNat x1)) fun y161 => K77 y161 s136)) else (ev_if ((0 : Int) ≤ x1 ∧ x1 < (ev_aln 651 : Int)) (ev_b (s136.2.1 651 (Int.toNat x1)) fun y162 => ev_b (y162 ^^^ (-1)) fun y163 => K77 y163 s136))))))
def jl_253_7 (Q : Nat)   : Nat → Int → ev_St → Option ((Unit) × ev_St)
  | 0 => fun _ _ => none
  | q + 1 => jb_253_7 Q   (jl_253_7 Q   q)
theorem jbt_253_7 (d : Nat) (hd : 6 ≤ d + 1) (Q : Nat)     (K7 : Int → ev_St → Option ((Unit) × ev_St)) (hK7 : ∀ (x1 : Int) (hx1 : ev_rng x1), ∀ (s5 : ev_St) (w2 : List (Nat × Value)), ev_lk w2 0 = some (.ref 621) → ev_lk w2 1 = some (.int (Int32.ofInt x1)) → ev_w none (ev_Mof 253) d 7 w2 [] s5 (K7 x1 s5) ev_eU ev_PU) : ∀ (x1 : Int) (hx1 : ev_rng x1), ∀ (s5 : ev_St) (w2 : List (Nat × Value)), ev_lk w2 0 = some (.ref 621) → ev_lk w2 1 = some (.int (Int32.ofInt x1)) → ev_w none (ev_Mof 253) d 7 w2 [] s5 (jb_253_7 Q   K7 x1 s5) ev_eU ev_PU := by
  intro x1 hx1 s5 w2 e3 e4
  unfold jb_253_7
  refine ev_r_iload_n (pc := 7) (k := 1) (v := Int32.ofInt x1) (by decide +kernel) (by exact e4) ?_
  refine ev_r_if (pc := 8) (q := .lt) (o := 364) (t := 372) (c := x1 < 0) (by decide +kernel) (ev_k_lt hx1 ev_rng0) (by decide +kernel) ?_ ?_
  · intro c6
    exact ev_r_return (pc := 372) (x := ()) trivial (by decide +kernel) (by decide +kernel) rfl
  · intro c6
    refine ev_r_aload_n (pc := 11) (k := 0) (v := .ref 621) trivial (by decide +kernel) (by exact e3) ?_
    refine ev_r_getI (pc := 12) (y := 352) (ci := 13) (f := 25) (fin := 0) (by decide +kernel) (by decide +kernel) (by exact ev_ob_621) rfl ?_
    intro x7 hx7
    refine ev_r_if (pc := 15) (q := .ne) (o := 357) (t := 372) (c := x7 ≠ 0) (by decide +kernel) (ev_k_ne hx7 ev_rng0) (by decide +kernel) ?_ ?_
    · intro c8
      exact ev_r_return (pc := 372) (x := ()) trivial (by decide +kernel) (by decide +kernel) rfl
    · intro c8
      refine ev_r_aload_n (pc := 18) (k := 0) (v := .ref 621) trivial (by decide +kernel) (by exact e3) ?_
      refine ev_r_iconst (pc := 19) (k := 0) (by decide +kernel) ?_
      refine ev_r_virt (pc := 20) (y := 409) (mi := 233) (na := 1) (k := 621) (as := [.int (Int32.ofInt 0)]) (rest := []) (encc := ev_oI) (Q := ev_rng) (fun x S1 h => jt_233 d (by omega) Q 0 (by decide) s5 x S1 h) (by exact ev_ob_621) (by decide +kernel) (by decide +kernel) (by decide +kernel) (by decide +kernel) rfl (by (try simp only [ev_sum, ev_nv_cat]); first | done | rfl) ?_
      intro x10 s9 hx10
      show ev_w _ _ _ _ _ [.int (Int32.ofInt x10)] _ _ _ _
      refine ev_r_istore_n (pc := 23) (k := 2) (by decide +kernel) (by decide +kernel) rfl ?_
      refine ev_r_aload_n (pc := 24) (k := 0) (v := .ref 621) trivial (by decide +kernel) (by exact (ev_l1 e3 (by decide) (by decide))) ?_
      refine ev_r_iconst (pc := 25) (k := 1) (by decide +kernel) ?_
      refine ev_r_virt (pc := 26) (y := 409) (mi := 233) (na := 1) (k := 621) (as := [.int (Int32.ofInt 1)]) (rest := []) (encc := ev_oI) (Q := ev_rng) (fun x S1 h => jt_233 d (by omega) Q 1 (by decide) s9 x S1 h) (by exact ev_ob_621) (by decide +kernel) (by decide +kernel) (by decide +kernel) (by decide +kernel) rfl (by (try simp only [ev_sum, ev_nv_cat]); first | done | rfl) ?_
      intro x12 s11 hx12
      show ev_w _ _ _ _ _ [.int (Int32.ofInt x12)] _ _ _ _
      refine ev_r_istore_n (pc := 29) (k := 3) (by decide +kernel) (by decide +kernel) rfl ?_
      refine ev_r_aload_n (pc := 30) (k := 0) (v := .ref 621) trivial (by decide +kernel) (by exact (ev_l1 (ev_l1 e3 (by decide) (by decide)) (by decide) (by decide))) ?_
      refine ev_r_iconst (pc := 31) (k := 0) (by decide +kernel) ?_
      refine ev_r_virt (pc := 32) (y := 422) (mi := 250) (na := 1) (k := 621) (as := [.int (Int32.ofInt 0)]) (rest := []) (encc := ev_oI) (Q := ev_rng) (fun x S1 h => jt_250 d (by omega) Q 0 (by decide) s11 x S1 h) (by exact ev_ob_621) (by decide +kernel) (by decide +kernel) (by decide +kernel) (by decide +kernel) rfl (by (try simp only [ev_sum, ev_nv_cat]); first | done | rfl) ?_
      intro x14 s13 hx14
      show ev_w _ _ _ _ _ [.int (Int32.ofInt x14)] _ _ _ _
      refine ev_r_istore (pc := 35) (k := 4) (by decide +kernel) (by decide +kernel) rfl ?_
      refine ev_r_iload_n (pc := 37) (k := 2) (v := Int32.ofInt x10) (by decide +kernel) (by exact (ev_l1 (ev_lk_st1 ev_lk_st1_self (by decide) rfl) (by decide) (by decide))) ?_
      refine ev_r_bipush (pc := 38) (k := 93) (by decide +kernel) (by decide +kernel) ?_
      refine ev_r_jn (Q := fun K => ∀ (x15 : Int) (hx15 : ev_rng x15), ∀ (s19 : ev_St) (w16 : List (Nat × Value)), ev_lk w16 0 = some (.ref 621) → ev_lk w16 1 = some (.int (Int32.ofInt x15)) → ev_w none (ev_Mof 253) d 369 w16 [] s19 (K x15 s19) ev_eU ev_PU) ?_ ?_
      · intro x15 hx15 s19 w16 e17 e18
        refine ev_r_goto (pc := 369) (o := (-362)) (t := 7) (by decide +kernel) (by decide +kernel) ?_
        exact hK7 x15 hx15 s19 _ (by exact e17) (by exact e18)
      · intro K369 hK369
        refine ev_r_icmp (pc := 40) (q := .ne) (o := 96) (t := 136) (c := x10 ≠ 93) (by decide +kernel) (ev_k_ne hx10 (by decide)) (by decide +kernel) ?_ ?_
        · intro c20
          refine ev_r_iload_n (pc := 136) (k := 2) (v := Int32.ofInt x10) (by decide +kernel) (by exact (ev_l1 (ev_lk_st1 ev_lk_st1_self (by decide) rfl) (by decide) (by decide))) ?_
          refine ev_r_bipush (pc := 137) (k := 91) (by decide +kernel) (by decide +kernel) ?_
          refine ev_r_icmp (pc := 139) (q := .ne) (o := 14) (t := 153) (c := x10 ≠ 91) (by decide +kernel) (ev_k_ne hx10 (by decide)) (by decide +kernel) ?_ ?_
          · intro c21
            refine ev_r_iload_n (pc := 153) (k := 2) (v := Int32.ofInt x10) (by decide +kernel) (by exact (ev_l1 (ev_lk_st1 ev_lk_st1_self (by decide) rfl) (by decide) (by decide))) ?_
            refine ev_r_bipush (pc := 154) (k := 92) (by decide +kernel) (by decide +kernel) ?_
            refine ev_r_jn (Q := fun K => ∀ (s28 : ev_St) (w22 : List (Nat × Value)), ev_lk w22 0 = some (.ref 621) → ev_lk w22 1 = some (.int (Int32.ofInt x1)) → ev_lk w22 2 = some (.int (Int32.ofInt x10)) → ev_lk w22 3 = some (.int (Int32.ofInt x12)) → ev_lk w22 4 = some (.int (Int32.ofInt x14)) → ev_w none (ev_Mof 253) d 184 w22 [] s28 (K  s28) ev_eU ev_PU) ?_ ?_
            · intro  s28 w22 e23 e24 e25 e26 e27
              refine ev_r_iload (pc := 184) (k := 4) (v := Int32.ofInt x14) (by decide +kernel) (by exact e27) ?_
              refine ev_r_if (pc := 186) (q := .le) (o := 124) (t := 310) (c := x14 ≤ 0) (by decide +kernel) (ev_k_le hx14 ev_rng0) (by decide +kernel) ?_ ?_
              · intro c29
                refine ev_r_iload_n (pc := 310) (k := 2) (v := Int32.ofInt x10) (by decide +kernel) (by exact e25) ?_
                refine ev_r_bipush (pc := 311) (k := 38) (by decide +kernel) (by decide +kernel) ?_
                refine ev_r_jn (Q := fun K => ∀ (s34 : ev_St) (w30 : List (Nat × Value)), ev_lk w30 0 = some (.ref 621) → ev_lk w30 1 = some (.int (Int32.ofInt x1)) → ev_lk w30 2 = some (.int (Int32.ofInt x10)) → ev_w none (ev_Mof 253) d 334 w30 [] s34 (K  s34) ev_eU ev_PU) ?_ ?_
                · intro  s34 w30 e31 e32 e33
                  refine ev_r_aload_n (pc := 334) (k := 0) (v := .ref 621) trivial (by decide +kernel) (by exact e31) ?_
                  refine ev_r_iload_n (pc := 335) (k := 1) (v := Int32.ofInt x1) (by decide +kernel) (by exact e32) ?_
                  refine ev_r_virt (pc := 336) (y := 425) (mi := 248) (na := 1) (k := 621) (as := [.int (Int32.ofInt x1)]) (rest := []) (encc := ev_oU) (Q := ev_PU) (fun x S1 h => jt_248 d (by omega) Q x1 hx1 s34 x S1 h) (by exact ev_ob_621) (by decide +kernel) (by decide +kernel) (by decide +kernel) (by decide +kernel) rfl (by (try simp only [ev_sum, ev_nv_cat]); first | done | rfl) ?_
                  intro _ s35 _
                  show ev_w _ _ _ _ _ [] _ _ _ _
                  refine ev_r_aload_n (pc := 339) (k := 0) (v := .ref 621) trivial (by decide +kernel) (by exact e31) ?_
                  refine ev_r_getC (pc := 340) (y := 117) (ci := 13) (f := 49) (fin := 1) (k' := 657) (by decide +kernel) (by decide +kernel) (by exact ev_ob_621) rfl rfl ?_
                  refine ev_r_iload_n (pc := 343) (k := 1) (v := Int32.ofInt x1) (by decide +kernel) (by exact e32) ?_
                  refine ev_r_iload_n (pc := 344) (k := 2) (v := Int32.ofInt x10) (by decide +kernel) (by exact e33) ?_
                  refine ev_r_bipush (pc := 345) (k := 38) (by decide +kernel) (by decide +kernel) ?_
                  refine ev_r_jn (Q := fun K => ∀ (x38 : Int) (hx38 : ev_rng x38), ∀ (x37 : Int) (hx37 : ev_rng x37), ∀ (r36 : Nat) (hr36 : ev_isAb r36 1 .int = true), ∀ (s42 : ev_St) (w39 : List (Nat × Value)), ev_lk w39 0 = some (.ref 621) → ev_lk w39 1 = some (.int (Int32.ofInt x1)) → ev_w none (ev_Mof 253) d 355 w39 [.int (Int32.ofInt x38), .int (Int32.ofInt x37), .ref r36] s42 (K x38 x37 r36 s42) ev_eU ev_PU) ?_ ?_
                  · intro x38 hx38 x37 hx37 r36 hr36 s42 w39 e40 e41
                    refine ev_r_iast (pc := 355) hx38 hx37 (by decide +kernel) (by exact hr36) ?_
                    intro s43
                    refine ev_r_aload_n (pc := 356) (k := 0) (v := .ref 621) trivial (by decide +kernel) (by exact e40) ?_
                    refine ev_r_iconst (pc := 357) (k := 2) (by decide +kernel) ?_
                    refine ev_r_virt (pc := 358) (y := 415) (mi := 234) (na := 1) (k := 621) (as := [.int (Int32.ofInt 2)]) (rest := []) (encc := ev_oU) (Q := ev_PU) (fun x S1 h => jt_234 d (by omega) Q 2 (by decide) s43 x S1 h) (by exact ev_ob_621) (by decide +kernel) (by decide +kernel) (by decide +kernel) (by decide +kernel) rfl (by (try simp only [ev_sum, ev_nv_cat]); first | done | rfl) ?_
                    intro _ s44 _
                    show ev_w _ _ _ _ _ [] _ _ _ _
                    refine ev_r_goto (pc := 361) (o := 8) (t := 369) (by decide +kernel) (by decide +kernel) ?_
                    exact hK369 x1 hx1 s44 _ (by exact e40) (by exact e41)
                  · intro K355 hK355
                    refine ev_r_icmp (pc := 347) (q := .ne) (o := 7) (t := 354) (c := x10 ≠ 38) (by decide +kernel) (ev_k_ne hx10 (by decide)) (by decide +kernel) ?_ ?_
                    · intro c45
                      refine ev_r_iconst (pc := 354) (k := 2) (by decide +kernel) ?_
                      exact hK355 2 (by decide) x1 hx1 657 ev_ab_657 s35 _ (by exact e31) (by exact e32)
                    · intro c45
                      refine ev_r_iconst (pc := 350) (k := 1) (by decide +kernel) ?_
                      refine ev_r_goto (pc := 351) (o := 4) (t := 355) (by decide +kernel) (by decide +kernel) ?_
                      exact hK355 1 (by decide) x1 hx1 657 ev_ab_657 s35 _ (by exact e31) (by exact e32)
                · intro K334 hK334
                  refine ev_r_jn (Q := fun K => ∀ (s51 : ev_St) (w46 : List (Nat × Value)), ev_lk w46 0 = some (.ref 621) → ev_lk w46 1 = some (.int (Int32.ofInt x1)) → ev_lk w46 2 = some (.int (Int32.ofInt x10)) → ev_lk w46 3 = some (.int (Int32.ofInt x12)) → ev_w none (ev_Mof 253) d 322 w46 [] s51 (K  s51) ev_eU ev_PU) ?_ ?_
                  · intro  s51 w46 e47 e48 e49 e50
                    refine ev_r_iload_n (pc := 322) (k := 2) (v := Int32.ofInt x10) (by decide +kernel) (by exact e49) ?_
                    refine ev_r_bipush (pc := 323) (k := 45) (by decide +kernel) (by decide +kernel) ?_
                    refine ev_r_jn (Q := fun K => ∀ (s55 : ev_St) (w52 : List (Nat × Value)), ev_lk w52 0 = some (.ref 621) → ev_lk w52 1 = some (.int (Int32.ofInt x1)) → ev_w none (ev_Mof 253) d 364 w52 [] s55 (K  s55) ev_eU ev_PU) ?_ ?_
                    · intro  s55 w52 e53 e54
                      refine ev_r_aload_n (pc := 364) (k := 0) (v := .ref 621) trivial (by decide +kernel) (by exact e53) ?_
                      refine ev_r_iconst (pc := 365) (k := 1) (by decide +kernel) ?_
                      refine ev_r_putI (pc := 366) (y := 352) (ci := 13) (f := 25) (by decide) (by decide +kernel) (by decide +kernel) (by exact ev_ob_621) rfl (ev_fit_bl (by decide : ev_bl 1)) ?_
                      intro s56
                      exact hK369 x1 hx1 s56 _ (by exact e53) (by exact e54)
                    · intro K364 hK364
                      refine ev_r_icmp (pc := 325) (q := .ne) (o := 39) (t := 364) (c := x10 ≠ 45) (by decide +kernel) (ev_k_ne hx10 (by decide)) (by decide +kernel) ?_ ?_
                      · intro c57
                        exact hK364  s51 _ (by exact e47) (by exact e48)
                      · intro c57
                        refine ev_r_iload_n (pc := 328) (k := 3) (v := Int32.ofInt x12) (by decide +kernel) (by exact e50) ?_
                        refine ev_r_bipush (pc := 329) (k := 45) (by decide +kernel) (by decide +kernel) ?_
                        refine ev_r_icmp (pc := 331) (q := .ne) (o := 33) (t := 364) (c := x12 ≠ 45) (by decide +kernel) (ev_k_ne hx12 (by decide)) (by decide +kernel) ?_ ?_
                        · intro c58
                          exact hK364  s51 _ (by exact e47) (by exact e48)
                        · intro c58
                          exact hK334  s51 _ (by exact e47) (by exact e48) (by exact e49)
                  · intro K322 hK322
                    refine ev_r_icmp (pc := 313) (q := .ne) (o := 9) (t := 322) (c := x10 ≠ 38) (by decide +kernel) (ev_k_ne hx10 (by decide)) (by decide +kernel) ?_ ?_
                    · intro c59
                      exact hK322  s28 _ (by exact e23) (by exact e24) (by exact e25) (by exact e26)
                    · intro c59
                      refine ev_r_iload_n (pc := 316) (k := 3) (v := Int32.ofInt x12) (by decide +kernel) (by exact e26) ?_
                      refine ev_r_bipush (pc := 317) (k := 38) (by decide +kernel) (by decide +kernel) ?_
                      refine ev_r_icmp (pc := 319) (q := .eq) (o := 15) (t := 334) (c := x12 = 38) (by decide +kernel) (ev_k_eq hx12 (by decide)) (by decide +kernel) ?_ ?_
                      · intro c60
                        exact hK334  s28 _ (by exact e23) (by exact e24) (by exact e25)
                      · intro c60
                        exact hK322  s28 _ (by exact e23) (by exact e24) (by exact e25) (by exact e26)
              · intro c29
                refine ev_r_aload_n (pc := 189) (k := 0) (v := .ref 621) trivial (by decide +kernel) (by exact e23) ?_
                refine ev_r_iconst (pc := 190) (k := 0) (by decide +kernel) ?_
                refine ev_r_virt (pc := 191) (y := 439) (mi := 251) (na := 1) (k := 621) (as := [.int (Int32.ofInt 0)]) (rest := []) (encc := ev_oI) (Q := ev_rng) (fun x S1 h => jt_251 d (by omega) Q 0 (by decide) s28 x S1 h) (by exact ev_ob_621) (by decide +kernel) (by decide +kernel) (by decide +kernel) (by decide +kernel) rfl (by (try simp only [ev_sum, ev_nv_cat]); first | done | rfl) ?_
                intro x62 s61 hx62
                show ev_w _ _ _ _ _ [.int (Int32.ofInt x62)] _ _ _ _
                refine ev_r_istore (pc := 194) (k := 5) (by decide +kernel) (by decide +kernel) rfl ?_
                refine ev_r_iload (pc := 196) (k := 5) (v := Int32.ofInt x62) (by decide +kernel) (by exact ev_lk_st1_self) ?_
                refine ev_r_istore (pc := 198) (k := 6) (by decide +kernel) (by decide +kernel) rfl ?_
                refine ev_r_aload_n (pc := 200) (k := 0) (v := .ref 621) trivial (by decide +kernel) (by exact (ev_l1 (ev_l1 e23 (by decide) (by decide)) (by decide) (by decide))) ?_
                refine ev_r_iload (pc := 201) (k := 4) (v := Int32.ofInt x14) (by decide +kernel) (by exact (ev_l1 (ev_lk_st1 e27 (by decide) rfl) (by decide) (by decide))) ?_
                refine ev_r_virt (pc := 203) (y := 415) (mi := 234) (na := 1) (k := 621) (as := [.int (Int32.ofInt x14)]) (rest := []) (encc := ev_oU) (Q := ev_PU) (fun x S1 h => jt_234 d (by omega) Q x14 hx14 s61 x S1 h) (by exact ev_ob_621) (by decide +kernel) (by decide +kernel) (by decide +kernel) (by decide +kernel) rfl (by (try simp only [ev_sum, ev_nv_cat]); first | done | rfl) ?_
                intro _ s63 _
                show ev_w _ _ _ _ _ [] _ _ _ _
                refine ev_r_aload_n (pc := 206) (k := 0) (v := .ref 621) trivial (by decide +kernel) (by exact (ev_l1 (ev_l1 e23 (by decide) (by decide)) (by decide) (by decide))) ?_
                refine ev_r_iconst (pc := 207) (k := 0) (by decide +kernel) ?_
                refine ev_r_virt (pc := 208) (y := 409) (mi := 233) (na := 1) (k := 621) (as := [.int (Int32.ofInt 0)]) (rest := []) (encc := ev_oI) (Q := ev_rng) (fun x S1 h => jt_233 d (by omega) Q 0 (by decide) s63 x S1 h) (by exact ev_ob_621) (by decide +kernel) (by decide +kernel) (by decide +kernel) (by decide +kernel) rfl (by (try simp only [ev_sum, ev_nv_cat]); first | done | rfl) ?_
                intro x65 s64 hx65
                show ev_w _ _ _ _ _ [.int (Int32.ofInt x65)] _ _ _ _
                refine ev_r_bipush (pc := 211) (k := 45) (by decide +kernel) (by decide +kernel) ?_
                refine ev_r_jn (Q := fun K => ∀ (x66 : Int) (hx66 : ev_rng x66), ∀ (x67 : Int) (hx67 : ev_rng x67), ∀ (s73 : ev_St) (w68 : List (Nat × Value)), ev_lk w68 0 = some (.ref 621) → ev_lk w68 1 = some (.int (Int32.ofInt x1)) → ev_lk w68 5 = some (.int (Int32.ofInt x66)) → ev_lk w68 6 = some (.int (Int32.ofInt x67)) → ev_w none (ev_Mof 253) d 280 w68 [] s73 (K x66 x67 s73) ev_eU ev_PU) ?_ ?_
                · intro x66 hx66 x67 hx67 s73 w68 e69 e70 e71 e72
                  refine ev_r_aload_n (pc := 280) (k := 0) (v := .ref 621) trivial (by decide +kernel) (by exact e69) ?_
                  refine ev_r_iload (pc := 281) (k := 5) (v := Int32.ofInt x66) (by decide +kernel) (by exact e71) ?_
                  refine ev_r_iload (pc := 283) (k := 6) (v := Int32.ofInt x67) (by decide +kernel) (by exact e72) ?_
                  refine ev_r_aload_n (pc := 285) (k := 0) (v := .ref 621) trivial (by decide +kernel) (by exact e69) ?_
                  refine ev_r_getI (pc := 286) (y := 384) (ci := 13) (f := 40) (fin := 0) (by decide +kernel) (by decide +kernel) (by exact ev_ob_621) rfl ?_
                  intro x74 hx74
                  refine ev_r_iconst (pc := 289) (k := 1) (by decide +kernel) ?_
                  refine ev_r_iand (pc := 290) (by decide +kernel) ?_
                  intro x75 hx75
                  refine ev_r_jn (Q := fun K => ∀ (x78 : Int) (hx78 : ev_rng x78), ∀ (x77 : Int) (hx77 : ev_rng x77), ∀ (x76 : Int) (hx76 : ev_rng x76), ∀ (s82 : ev_St) (w79 : List (Nat × Value)), ev_lk w79 0 = some (.ref 621) → ev_lk w79 1 = some (.int (Int32.ofInt x1)) → ev_w none (ev_Mof 253) d 299 w79 [.int (Int32.ofInt x78), .int (Int32.ofInt x77), .int (Int32.ofInt x76), .ref 621] s82 (K x78 x77 x76 s82) ev_eU ev_PU) ?_ ?_
                  · intro x78 hx78 x77 hx77 x76 hx76 s82 w79 e80 e81
                    refine ev_r_virt (pc := 299) (y := 442) (mi := 245) (na := 3) (k := 621) (as := [.int (Int32.ofInt x76), .int (Int32.ofInt x77), .int (Int32.ofInt x78)]) (rest := []) (encc := ev_oU) (Q := ev_PU) (fun x S1 h => jt_245 d (by omega) Q x76 x77 x78 hx76 hx77 hx78 s82 x S1 h) (by exact ev_ob_621) (by decide +kernel) (by decide +kernel) (by decide +kernel) (by decide +kernel) rfl (by (try simp only [ev_sum, ev_nv_cat]); first | done | rfl) ?_
                    intro _ s83 _
                    show ev_w _ _ _ _ _ [] _ _ _ _
                    refine ev_r_aload_n (pc := 302) (k := 0) (v := .ref 621) trivial (by decide +kernel) (by exact e80) ?_
                    refine ev_r_iload_n (pc := 303) (k := 1) (v := Int32.ofInt x1) (by decide +kernel) (by exact e81) ?_
                    refine ev_r_virt (pc := 304) (y := 430) (mi := 249) (na := 1) (k := 621) (as := [.int (Int32.ofInt x1)]) (rest := []) (encc := ev_oU) (Q := ev_PU) (fun x S1 h => jt_249 d (by omega) Q x1 hx1 s83 x S1 h) (by exact ev_ob_621) (by decide +kernel) (by decide +kernel) (by decide +kernel) (by decide +kernel) rfl (by (try simp only [ev_sum, ev_nv_cat]); first | done | rfl) ?_
                    intro _ s84 _
                    show ev_w _ _ _ _ _ [] _ _ _ _
                    refine ev_r_goto (pc := 307) (o := 62) (t := 369) (by decide +kernel) (by decide +kernel) ?_
                    exact hK369 x1 hx1 s84 _ (by exact e80) (by exact e81)
                  · intro K299 hK299
                    refine ev_r_if (pc := 291) (q := .le) (o := 7) (t := 298) (c := x75 ≤ 0) (by decide +kernel) (ev_k_le hx75 ev_rng0) (by decide +kernel) ?_ ?_
                    · intro c85
                      refine ev_r_iconst (pc := 298) (k := 0) (by decide +kernel) ?_
                      exact hK299 0 (by decide) x67 hx67 x66 hx66 s73 _ (by exact e69) (by exact e70)
                    · intro c85
                      refine ev_r_iconst (pc := 294) (k := 1) (by decide +kernel) ?_
                      refine ev_r_goto (pc := 295) (o := 4) (t := 299) (by decide +kernel) (by decide +kernel) ?_
                      exact hK299 1 (by decide) x67 hx67 x66 hx66 s73 _ (by exact e69) (by exact e70)
                · intro K280 hK280
                  refine ev_r_icmp (pc := 213) (q := .ne) (o := 67) (t := 280) (c := x65 ≠ 45) (by decide +kernel) (ev_k_ne hx65 (by decide)) (by decide +kernel) ?_ ?_
                  · intro c86
                    exact hK280 x62 hx62 x62 hx62 s64 _ (by exact (ev_l1 (ev_l1 e23 (by decide) (by decide)) (by decide) (by decide))) (by exact (ev_l1 (ev_l1 e24 (by decide) (by decide)) (by decide) (by decide))) (by exact (ev_lk_st1 ev_lk_st1_self (by decide) rfl)) (by exact ev_lk_st1_self)
                  · intro c86
                    refine ev_r_aload_n (pc := 216) (k := 0) (v := .ref 621) trivial (by decide +kernel) (by exact (ev_l1 (ev_l1 e23 (by decide) (by decide)) (by decide) (by decide))) ?_
                    refine ev_r_iconst (pc := 217) (k := 1) (by decide +kernel) ?_
                    refine ev_r_virt (pc := 218) (y := 409) (mi := 233) (na := 1) (k := 621) (as := [.int (Int32.ofInt 1)]) (rest := []) (encc := ev_oI) (Q := ev_rng) (fun x S1 h => jt_233 d (by omega) Q 1 (by decide) s64 x S1 h) (by exact ev_ob_621) (by decide +kernel) (by decide +kernel) (by decide +kernel) (by decide +kernel) rfl (by (try simp only [ev_sum, ev_nv_cat]); first | done | rfl) ?_
                    intro x88 s87 hx88
                    show ev_w _ _ _ _ _ [.int (Int32.ofInt x88)] _ _ _ _
                    refine ev_r_bipush (pc := 221) (k := 45) (by decide +kernel) (by decide +kernel) ?_
                    refine ev_r_icmp (pc := 223) (q := .eq) (o := 57) (t := 280) (c := x88 = 45) (by decide +kernel) (ev_k_eq hx88 (by decide)) (by decide +kernel) ?_ ?_
                    · intro c89
                      exact hK280 x62 hx62 x62 hx62 s87 _ (by exact (ev_l1 (ev_l1 e23 (by decide) (by decide)) (by decide) (by decide))) (by exact (ev_l1 (ev_l1 e24 (by decide) (by decide)) (by decide) (by decide))) (by exact (ev_lk_st1 ev_lk_st1_self (by decide) rfl)) (by exact ev_lk_st1_self)
                    · intro c89
                      refine ev_r_aload_n (pc := 226) (k := 0) (v := .ref 621) trivial (by decide +kernel) (by exact (ev_l1 (ev_l1 e23 (by decide) (by decide)) (by decide) (by decide))) ?_
                      refine ev_r_iconst (pc := 227) (k := 1) (by decide +kernel) ?_
                      refine ev_r_virt (pc := 228) (y := 422) (mi := 250) (na := 1) (k := 621) (as := [.int (Int32.ofInt 1)]) (rest := []) (encc := ev_oI) (Q := ev_rng) (fun x S1 h => jt_250 d (by omega) Q 1 (by decide) s87 x S1 h) (by exact ev_ob_621) (by decide +kernel) (by decide +kernel) (by decide +kernel) (by decide +kernel) rfl (by (try simp only [ev_sum, ev_nv_cat]); first | done | rfl) ?_
                      intro x91 s90 hx91
                      show ev_w _ _ _ _ _ [.int (Int32.ofInt x91)] _ _ _ _
                      refine ev_r_istore (pc := 231) (k := 7) (by decide +kernel) (by decide +kernel) rfl ?_
                      refine ev_r_iload (pc := 233) (k := 7) (v := Int32.ofInt x91) (by decide +kernel) (by exact ev_lk_st1_self) ?_
                      refine ev_r_jn (Q := fun K => ∀ (x92 : Int) (hx92 : ev_rng x92), ∀ (x93 : Int) (hx93 : ev_rng x93), ∀ (s99 : ev_St) (w94 : List (Nat × Value)), ev_lk w94 0 = some (.ref 621) → ev_lk w94 1 = some (.int (Int32.ofInt x1)) → ev_lk w94 5 = some (.int (Int32.ofInt x62)) → ev_lk w94 7 = some (.int (Int32.ofInt x92)) → ev_w none (ev_Mof 253) d 247 w94 [.int (Int32.ofInt x93)] s99 (K x92 x93 s99) ev_eU ev_PU) ?_ ?_
                      · intro x92 hx92 x93 hx93 s99 w94 e95 e96 e97 e98
                        refine ev_r_istore (pc := 247) (k := 6) (by decide +kernel) (by decide +kernel) rfl ?_
                        refine ev_r_aload_n (pc := 249) (k := 0) (v := .ref 621) trivial (by decide +kernel) (by exact (ev_l1 e95 (by decide) (by decide))) ?_
                        refine ev_r_aload_n (pc := 250) (k := 0) (v := .ref 621) trivial (by decide +kernel) (by exact (ev_l1 e95 (by decide) (by decide))) ?_
                        refine ev_r_getI (pc := 251) (y := 352) (ci := 13) (f := 25) (fin := 0) (by decide +kernel) (by decide +kernel) (by exact ev_ob_621) rfl ?_
                        intro x100 hx100
                        refine ev_r_jn (Q := fun K => ∀ (x101 : Int) (hx101 : ev_rng x101), ∀ (x102 : Int) (hx102 : ev_rng x102), ∀ (s109 : ev_St) (w103 : List (Nat × Value)), ev_lk w103 0 = some (.ref 621) → ev_lk w103 1 = some (.int (Int32.ofInt x1)) → ev_lk w103 5 = some (.int (Int32.ofInt x62)) → ev_lk w103 6 = some (.int (Int32.ofInt x101)) → ev_lk w103 7 = some (.int (Int32.ofInt x92)) → ev_w none (ev_Mof 253) d 269 w103 [.int (Int32.ofInt x102), .ref 621] s109 (K x101 x102 s109) ev_eU ev_PU) ?_ ?_
                        · intro x101 hx101 x102 hx102 s109 w103 e104 e105 e106 e107 e108
                          refine ev_r_chk ?_
                          intro c111
                          refine ev_r_putI (pc := 269) (y := 352) (ci := 13) (f := 25) hx102 (by decide +kernel) (by decide +kernel) (by exact ev_ob_621) rfl (ev_fit_bl c111) ?_
                          intro s110
                          refine ev_r_aload_n (pc := 272) (k := 0) (v := .ref 621) trivial (by decide +kernel) (by exact e104) ?_
                          refine ev_r_iconst (pc := 273) (k := 1) (by decide +kernel) ?_
                          refine ev_r_iload (pc := 274) (k := 7) (v := Int32.ofInt x92) (by decide +kernel) (by exact e108) ?_
                          refine ev_r_iadd (pc := 276) (by decide +kernel) ?_
                          intro x112 hx112
                          refine ev_r_virt (pc := 277) (y := 415) (mi := 234) (na := 1) (k := 621) (as := [.int (Int32.ofInt x112)]) (rest := []) (encc := ev_oU) (Q := ev_PU) (fun x S1 h => jt_234 d (by omega) Q x112 hx112 s110 x S1 h) (by exact ev_ob_621) (by decide +kernel) (by decide +kernel) (by decide +kernel) (by decide +kernel) rfl (by (try simp only [ev_sum, ev_nv_cat]); first | done | rfl) ?_
                          intro _ s113 _
                          show ev_w _ _ _ _ _ [] _ _ _ _
                          exact hK280 x62 hx62 x101 hx101 s113 _ (by exact e104) (by exact e105) (by exact e106) (by exact e107)
                        · intro K269 hK269
                          refine ev_r_jn (Q := fun K => ∀ (x114 : Int) (hx114 : ev_rng x114), ∀ (s121 : ev_St) (w115 : List (Nat × Value)), ev_lk w115 0 = some (.ref 621) → ev_lk w115 1 = some (.int (Int32.ofInt x1)) → ev_lk w115 5 = some (.int (Int32.ofInt x62)) → ev_lk w115 6 = some (.int (Int32.ofInt x114)) → ev_lk w115 7 = some (.int (Int32.ofInt x92)) → ev_w none (ev_Mof 253) d 264 w115 [.ref 621] s121 (K x114 s121) ev_eU ev_PU) ?_ ?_
                          · intro x114 hx114 s121 w115 e116 e117 e118 e119 e120
                            refine ev_r_iconst (pc := 264) (k := 1) (by decide +kernel) ?_
                            refine ev_r_goto (pc := 265) (o := 4) (t := 269) (by decide +kernel) (by decide +kernel) ?_
                            exact hK269 x114 hx114 1 (by decide) s121 _ (by exact e116) (by exact e117) (by exact e118) (by exact e119) (by exact e120)
                          · intro K264 hK264
                            refine ev_r_if (pc := 254) (q := .ne) (o := 10) (t := 264) (c := x100 ≠ 0) (by decide +kernel) (ev_k_ne hx100 ev_rng0) (by decide +kernel) ?_ ?_
                            · intro c122
                              exact hK264 x93 hx93 s99 _ (by exact (ev_l1 e95 (by decide) (by decide))) (by exact (ev_l1 e96 (by decide) (by decide))) (by exact (ev_lk_st1 e97 (by decide) rfl)) (by exact ev_lk_st1_self) (by exact (ev_l1 e98 (by decide) (by decide)))
                            · intro c122
                              refine ev_r_iload (pc := 257) (k := 6) (v := Int32.ofInt x93) (by decide +kernel) (by exact ev_lk_st1_self) ?_
                              refine ev_r_iload (pc := 259) (k := 5) (v := Int32.ofInt x62) (by decide +kernel) (by exact (ev_lk_st1 e97 (by decide) rfl)) ?_
                              refine ev_r_icmp (pc := 261) (q := .ge) (o := 7) (t := 268) (c := x62 ≤ x93) (by decide +kernel) (ev_k_ge hx93 hx62) (by decide +kernel) ?_ ?_
                              · intro c123
                                refine ev_r_iconst (pc := 268) (k := 0) (by decide +kernel) ?_
                                exact hK269 x93 hx93 0 (by decide) s99 _ (by exact (ev_l1 e95 (by decide) (by decide))) (by exact (ev_l1 e96 (by decide) (by decide))) (by exact (ev_lk_st1 e97 (by decide) rfl)) (by exact ev_lk_st1_self) (by exact (ev_l1 e98 (by decide) (by decide)))
                              · intro c123
                                exact hK264 x93 hx93 s99 _ (by exact (ev_l1 e95 (by decide) (by decide))) (by exact (ev_l1 e96 (by decide) (by decide))) (by exact (ev_lk_st1 e97 (by decide) rfl)) (by exact ev_lk_st1_self) (by exact (ev_l1 e98 (by decide) (by decide)))
                      · intro K247 hK247
                        refine ev_r_if (pc := 235) (q := .le) (o := 11) (t := 246) (c := x91 ≤ 0) (by decide +kernel) (ev_k_le hx91 ev_rng0) (by decide +kernel) ?_ ?_
                        · intro c124
                          refine ev_r_iconst (pc := 246) (k := -1) (by decide +kernel) ?_
                          exact hK247 x91 hx91 ((-1)) (by decide) s90 _ (by exact (ev_l1 (ev_l1 (ev_l1 e23 (by decide) (by decide)) (by decide) (by decide)) (by decide) (by decide))) (by exact (ev_l1 (ev_l1 (ev_l1 e24 (by decide) (by decide)) (by decide) (by decide)) (by decide) (by decide))) (by exact (ev_l1 (ev_lk_st1 ev_lk_st1_self (by decide) rfl) (by decide) (by decide))) (by exact ev_lk_st1_self)
                        · intro c124
                          refine ev_r_aload_n (pc := 238) (k := 0) (v := .ref 621) trivial (by decide +kernel) (by exact (ev_l1 (ev_l1 (ev_l1 e23 (by decide) (by decide)) (by decide) (by decide)) (by decide) (by decide))) ?_
                          refine ev_r_iconst (pc := 239) (k := 1) (by decide +kernel) ?_
                          refine ev_r_virt (pc := 240) (y := 439) (mi := 251) (na := 1) (k := 621) (as := [.int (Int32.ofInt 1)]) (rest := []) (encc := ev_oI) (Q := ev_rng) (fun x S1 h => jt_251 d (by omega) Q 1 (by decide) s90 x S1 h) (by exact ev_ob_621) (by decide +kernel) (by decide +kernel) (by decide +kernel) (by decide +kernel) rfl (by (try simp only [ev_sum, ev_nv_cat]); first | done | rfl) ?_
                          intro x126 s125 hx126
                          show ev_w _ _ _ _ _ [.int (Int32.ofInt x126)] _ _ _ _
                          refine ev_r_goto (pc := 243) (o := 4) (t := 247) (by decide +kernel) (by decide +kernel) ?_
                          exact hK247 x91 hx91 x126 hx126 s125 _ (by exact (ev_l1 (ev_l1 (ev_l1 e23 (by decide) (by decide)) (by decide) (by decide)) (by decide) (by decide))) (by exact (ev_l1 (ev_l1 (ev_l1 e24 (by decide) (by decide)) (by decide) (by decide)) (by decide) (by decide))) (by exact (ev_l1 (ev_lk_st1 ev_lk_st1_self (by decide) rfl) (by decide) (by decide))) (by exact ev_lk_st1_self)
            · intro K184 hK184
              refine ev_r_icmp (pc := 156) (q := .ne) (o := 28) (t := 184) (c := x10 ≠ 92) (by decide +kernel) (ev_k_ne hx10 (by decide)) (by decide +kernel) ?_ ?_
              · intro c127
                exact hK184  s13 _ (by exact (ev_l1 (ev_l1 (ev_l1 e3 (by decide) (by decide)) (by decide) (by decide)) (by decide) (by decide))) (by exact (ev_l1 (ev_l1 (ev_lk_st1 e4 (by decide) rfl) (by decide) (by decide)) (by decide) (by decide))) (by exact (ev_l1 (ev_lk_st1 ev_lk_st1_self (by decide) rfl) (by decide) (by decide))) (by exact (ev_lk_st1 ev_lk_st1_self (by decide) rfl)) (by exact ev_lk_st1_self)
              · intro c127
                refine ev_r_iload_n (pc := 159) (k := 3) (v := Int32.ofInt x12) (by decide +kernel) (by exact (ev_lk_st1 ev_lk_st1_self (by decide) rfl)) ?_
                refine ev_r_stat (pc := 160) (y := 433) (kind := 2) (mi := 247) (na := 1) (as := [.int (Int32.ofInt x12)]) (rest := []) (encc := ev_oI) (Q := ev_bl) (fun x S1 h => jt_247 d (by omega) Q x12 hx12 s13 x S1 h) (Or.inl rfl) (by decide +kernel) (by decide +kernel) (by decide +kernel) (by decide +kernel) rfl (by (try simp only [ev_sum, ev_nv_cat]); first | done | rfl) ?_
                intro x129 s128 hx129
                replace hx129 := ev_bl_rng hx129
                show ev_w _ _ _ _ _ [.int (Int32.ofInt x129)] _ _ _ _
                refine ev_r_if (pc := 163) (q := .eq) (o := 21) (t := 184) (c := x129 = 0) (by decide +kernel) (ev_k_eq hx129 ev_rng0) (by decide +kernel) ?_ ?_
                · intro c130
                  exact hK184  s128 _ (by exact (ev_l1 (ev_l1 (ev_l1 e3 (by decide) (by decide)) (by decide) (by decide)) (by decide) (by decide))) (by exact (ev_l1 (ev_l1 (ev_lk_st1 e4 (by decide) rfl) (by decide) (by decide)) (by decide) (by decide))) (by exact (ev_l1 (ev_lk_st1 ev_lk_st1_self (by decide) rfl) (by decide) (by decide))) (by exact (ev_lk_st1 ev_lk_st1_self (by decide) rfl)) (by exact ev_lk_st1_self)
                · intro c130
                  refine ev_r_aload_n (pc := 166) (k := 0) (v := .ref 621) trivial (by decide +kernel) (by exact (ev_l1 (ev_l1 (ev_l1 e3 (by decide) (by decide)) (by decide) (by decide)) (by decide) (by decide))) ?_
                  refine ev_r_iload_n (pc := 167) (k := 3) (v := Int32.ofInt x12) (by decide +kernel) (by exact (ev_lk_st1 ev_lk_st1_self (by decide) rfl)) ?_
                  refine ev_r_virt (pc := 168) (y := 436) (mi := 246) (na := 1) (k := 621) (as := [.int (Int32.ofInt x12)]) (rest := []) (encc := ev_oU) (Q := ev_PU) (fun x S1 h => jt_246 d (by omega) Q x12 hx12 s128 x S1 h) (by exact ev_ob_621) (by decide +kernel) (by decide +kernel) (by decide +kernel) (by decide +kernel) rfl (by (try simp only [ev_sum, ev_nv_cat]); first | done | rfl) ?_
                  intro _ s131 _
                  show ev_w _ _ _ _ _ [] _ _ _ _
                  refine ev_r_aload_n (pc := 171) (k := 0) (v := .ref 621) trivial (by decide +kernel) (by exact (ev_l1 (ev_l1 (ev_l1 e3 (by decide) (by decide)) (by decide) (by decide)) (by decide) (by decide))) ?_
                  refine ev_r_iconst (pc := 172) (k := 2) (by decide +kernel) ?_
                  refine ev_r_virt (pc := 173) (y := 415) (mi := 234) (na := 1) (k := 621) (as := [.int (Int32.ofInt 2)]) (rest := []) (encc := ev_oU) (Q := ev_PU) (fun x S1 h => jt_234 d (by omega) Q 2 (by decide) s131 x S1 h) (by exact ev_ob_621) (by decide +kernel) (by decide +kernel) (by decide +kernel) (by decide +kernel) rfl (by (try simp only [ev_sum, ev_nv_cat]); first | done | rfl) ?_
                  intro _ s132 _
                  show ev_w _ _ _ _ _ [] _ _ _ _
                  refine ev_r_aload_n (pc := 176) (k := 0) (v := .ref 621) trivial (by decide +kernel) (by exact (ev_l1 (ev_l1 (ev_l1 e3 (by decide) (by decide)) (by decide) (by decide)) (by decide) (by decide))) ?_
                  refine ev_r_iload_n (pc := 177) (k := 1) (v := Int32.ofInt x1) (by decide +kernel) (by exact (ev_l1 (ev_l1 (ev_lk_st1 e4 (by decide) rfl) (by decide) (by decide)) (by decide) (by decide))) ?_
                  refine ev_r_virt (pc := 178) (y := 430) (mi := 249) (na := 1) (k := 621) (as := [.int (Int32.ofInt x1)]) (rest := []) (encc := ev_oU) (Q := ev_PU) (fun x S1 h => jt_249 d (by omega) Q x1 hx1 s132 x S1 h) (by exact ev_ob_621) (by decide +kernel) (by decide +kernel) (by decide +kernel) (by decide +kernel) rfl (by (try simp only [ev_sum, ev_nv_cat]); first | done | rfl) ?_
                  intro _ s133 _
                  show ev_w _ _ _ _ _ [] _ _ _ _
                  refine ev_r_goto (pc := 181) (o := 188) (t := 369) (by decide +kernel) (by decide +kernel) ?_
                  exact hK369 x1 hx1 s133 _ (by exact (ev_l1 (ev_l1 (ev_l1 e3 (by decide) (by decide)) (by decide) (by decide)) (by decide) (by decide))) (by exact (ev_l1 (ev_l1 (ev_lk_st1 e4 (by decide) rfl) (by decide) (by decide)) (by decide) (by decide)))
          · intro c21
            refine ev_r_iinc (pc := 142) (k := 1) (c := 1) (x := x1) (by decide +kernel) (by decide +kernel) (by exact (ev_l1 (ev_l1 (ev_lk_st1 e4 (by decide) rfl) (by decide) (by decide)) (by decide) (by decide))) (fun _ => rfl) ?_
            intro x134 hx134
            refine ev_r_aload_n (pc := 145) (k := 0) (v := .ref 621) trivial (by decide +kernel) (by exact (ev_lk_st1 (ev_l1 (ev_l1 (ev_l1 e3 (by decide) (by decide)) (by decide) (by decide)) (by decide) (by decide)) (by decide) rfl)) ?_
            refine ev_r_iload_n (pc := 146) (k := 1) (v := Int32.ofInt x134) (by decide +kernel) (by exact ev_lk_st1_self) ?_
            refine ev_r_virt (pc := 147) (y := 419) (mi := 252) (na := 1) (k := 621) (as := [.int (Int32.ofInt x134)]) (rest := []) (encc := ev_oU) (Q := ev_PU) (fun x S1 h => jt_252 d (by omega) Q x134 hx134 s13 x S1 h) (by exact ev_ob_621) (by decide +kernel) (by decide +kernel) (by decide +kernel) (by decide +kernel) rfl (by (try simp only [ev_sum, ev_nv_cat]); first | done | rfl) ?_
            intro _ s135 _
            show ev_w _ _ _ _ _ [] _ _ _ _
            refine ev_r_goto (pc := 150) (o := 219) (t := 369) (by decide +kernel) (by decide +kernel) ?_
            exact hK369 x134 hx134 s135 _ (by exact (ev_lk_st1 (ev_l1 (ev_l1 (ev_l1 e3 (by decide) (by decide)) (by decide) (by decide)) (by decide) (by decide)) (by decide) rfl)) (by exact ev_lk_st1_self)
        · intro c20
          refine ev_r_aload_n (pc := 43) (k := 0) (v := .ref 621) trivial (by decide +kernel) (by exact (ev_l1 (ev_l1 (ev_l1 e3 (by decide) (by decide)) (by decide) (by decide)) (by decide) (by decide))) ?_
          refine ev_r_iload_n (pc := 44) (k := 1) (v := Int32.ofInt x1) (by decide +kernel) (by exact (ev_l1 (ev_l1 (ev_lk_st1 e4 (by decide) rfl) (by decide) (by decide)) (by decide) (by decide))) ?_
          refine ev_r_virt (pc := 45) (y := 425) (mi := 248) (na := 1) (k := 621) (as := [.int (Int32.ofInt x1)]) (rest := []) (encc := ev_oU) (Q := ev_PU) (fun x S1 h => jt_248 d (by omega) Q x1 hx1 s13 x S1 h) (by exact ev_ob_621) (by decide +kernel) (by decide +kernel) (by decide +kernel) (by decide +kernel) rfl (by (try simp only [ev_sum, ev_nv_cat]); first | done | rfl) ?_
          intro _ s136 _
          show ev_w _ _ _ _ _ [] _ _ _ _
          refine ev_r_aload_n (pc := 48) (k := 0) (v := .ref 621) trivial (by decide +kernel) (by exact (ev_l1 (ev_l1 (ev_l1 e3 (by decide) (by decide)) (by decide) (by decide)) (by decide) (by decide))) ?_
          refine ev_r_aload_n (pc := 49) (k := 0) (v := .ref 621) trivial (by decide +kernel) (by exact (ev_l1 (ev_l1 (ev_l1 e3 (by decide) (by decide)) (by decide) (by decide)) (by decide) (by decide))) ?_
          refine ev_r_getC (pc := 50) (y := 111) (ci := 13) (f := 47) (fin := 1) (k' := 655) (by decide +kernel) (by decide +kernel) (by exact ev_ob_621) rfl rfl ?_
          refine ev_r_iload_n (pc := 53) (k := 1) (v := Int32.ofInt x1) (by decide +kernel) (by exact (ev_l1 (ev_l1 (ev_lk_st1 e4 (by decide) rfl) (by decide) (by decide)) (by decide) (by decide))) ?_
          refine ev_r_bald (pc := 54) (ty := .boolean) (Or.inr rfl) hx1 (by decide +kernel) (by exact ev_ab_655) ?_
          intro x137 hx137
          refine ev_r_jn (Q := fun K => ∀ (y138 : Int64), ∀ (s142 : ev_St) (w139 : List (Nat × Value)), ev_lk w139 0 = some (.ref 621) → ev_lk w139 1 = some (.int (Int32.ofInt x1)) → ev_w none (ev_Mof 253) d 77 w139 [.long y138, .ref 621] s142 (K y138 s142) ev_eU ev_PU) ?_ ?_
          · intro y138 s142 w139 e140 e141
            refine ev_r_putL (pc := 77) (y := 394) (ci := 13) (f := 41) (by decide +kernel) (by decide +kernel) (by exact ev_ob_621) rfl rfl ?_
            intro s143
            refine ev_r_aload_n (pc := 80) (k := 0) (v := .ref 621) trivial (by decide +kernel) (by exact e140) ?_
            refine ev_r_aload_n (pc := 81) (k := 0) (v := .ref 621) trivial (by decide +kernel) (by exact e140) ?_
            refine ev_r_getC (pc := 82) (y := 111) (ci := 13) (f := 47) (fin := 1) (k' := 655) (by decide +kernel) (by decide +kernel) (by exact ev_ob_621) rfl rfl ?_
            refine ev_r_iload_n (pc := 85) (k := 1) (v := Int32.ofInt x1) (by decide +kernel) (by exact e141) ?_
            refine ev_r_bald (pc := 86) (ty := .boolean) (Or.inr rfl) hx1 (by decide +kernel) (by exact ev_ab_655) ?_
            intro x144 hx144
            refine ev_r_jn (Q := fun K => ∀ (y145 : Int64), ∀ (s149 : ev_St) (w146 : List (Nat × Value)), ev_lk w146 0 = some (.ref 621) → ev_lk w146 1 = some (.int (Int32.ofInt x1)) → ev_w none (ev_Mof 253) d 113 w146 [.long y145, .ref 621] s149 (K y145 s149) ev_eU ev_PU) ?_ ?_
            · intro y145 s149 w146 e147 e148
              refine ev_r_putL (pc := 113) (y := 398) (ci := 13) (f := 42) (by decide +kernel) (by decide +kernel) (by exact ev_ob_621) rfl rfl ?_
              intro s150
              refine ev_r_aload_n (pc := 116) (k := 0) (v := .ref 621) trivial (by decide +kernel) (by exact e147) ?_
              refine ev_r_iconst (pc := 117) (k := 1) (by decide +kernel) ?_
              refine ev_r_virt (pc := 118) (y := 415) (mi := 234) (na := 1) (k := 621) (as := [.int (Int32.ofInt 1)]) (rest := []) (encc := ev_oU) (Q := ev_PU) (fun x S1 h => jt_234 d (by omega) Q 1 (by decide) s150 x S1 h) (by exact ev_ob_621) (by decide +kernel) (by decide +kernel) (by decide +kernel) (by decide +kernel) rfl (by (try simp only [ev_sum, ev_nv_cat]); first | done | rfl) ?_
              intro _ s151 _
              show ev_w _ _ _ _ _ [] _ _ _ _
              refine ev_r_iinc (pc := 121) (k := 1) (c := -1) (x := x1) (by decide +kernel) (by decide +kernel) (by exact e148) (fun _ => rfl) ?_
              intro x152 hx152
              refine ev_r_iload_n (pc := 124) (k := 1) (v := Int32.ofInt x152) (by decide +kernel) (by exact ev_lk_st1_self) ?_
              refine ev_r_if (pc := 125) (q := .lt) (o := 244) (t := 369) (c := x152 < 0) (by decide +kernel) (ev_k_lt hx152 ev_rng0) (by decide +kernel) ?_ ?_
              · intro c153
                exact hK369 x152 hx152 s151 _ (by exact (ev_lk_st1 e147 (by decide) rfl)) (by exact ev_lk_st1_self)
              · intro c153
                refine ev_r_aload_n (pc := 128) (k := 0) (v := .ref 621) trivial (by decide +kernel) (by exact (ev_lk_st1 e147 (by decide) rfl)) ?_
                refine ev_r_iload_n (pc := 129) (k := 1) (v := Int32.ofInt x152) (by decide +kernel) (by exact ev_lk_st1_self) ?_
                refine ev_r_virt (pc := 130) (y := 430) (mi := 249) (na := 1) (k := 621) (as := [.int (Int32.ofInt x152)]) (rest := []) (encc := ev_oU) (Q := ev_PU) (fun x S1 h => jt_249 d (by omega) Q x152 hx152 s151 x S1 h) (by exact ev_ob_621) (by decide +kernel) (by decide +kernel) (by decide +kernel) (by decide +kernel) rfl (by (try simp only [ev_sum, ev_nv_cat]); first | done | rfl) ?_
                intro _ s154 _
                show ev_w _ _ _ _ _ [] _ _ _ _
                refine ev_r_goto (pc := 133) (o := 236) (t := 369) (by decide +kernel) (by decide +kernel) ?_
                exact hK369 x152 hx152 s154 _ (by exact (ev_lk_st1 e147 (by decide) rfl)) (by exact ev_lk_st1_self)
            · intro K113 hK113
              refine ev_r_if (pc := 87) (q := .eq) (o := 20) (t := 107) (c := x144 = 0) (by decide +kernel) (ev_k_eq hx144 ev_rng0) (by decide +kernel) ?_ ?_
              · intro c155
                refine ev_r_aload_n (pc := 107) (k := 0) (v := .ref 621) trivial (by decide +kernel) (by exact e140) ?_
                refine ev_r_getC (pc := 108) (y := 102) (ci := 13) (f := 44) (fin := 1) (k' := 652) (by decide +kernel) (by decide +kernel) (by exact ev_ob_621) rfl rfl ?_
                refine ev_r_iload_n (pc := 111) (k := 1) (v := Int32.ofInt x1) (by decide +kernel) (by exact e141) ?_
                refine ev_r_lald (pc := 112) hx1 (by decide +kernel) (by exact ev_ab_652) ?_
                intro y156
                exact hK113 y156 s143 _ (by exact e140) (by exact e141)
              · intro c155
                refine ev_r_aload_n (pc := 90) (k := 0) (v := .ref 621) trivial (by decide +kernel) (by exact e140) ?_
                refine ev_r_getC (pc := 91) (y := 102) (ci := 13) (f := 44) (fin := 1) (k' := 652) (by decide +kernel) (by decide +kernel) (by exact ev_ob_621) rfl rfl ?_
                refine ev_r_iload_n (pc := 94) (k := 1) (v := Int32.ofInt x1) (by decide +kernel) (by exact e141) ?_
                refine ev_r_lald (pc := 95) hx1 (by decide +kernel) (by exact ev_ab_652) ?_
                intro y157
                refine ev_r_ldc2 (pc := 96) (y := 407) (k := -1) (by decide +kernel) (by decide +kernel) ?_
                refine ev_r_toL (pc := 99) (i := .lxor) (len := 1) (pc' := 100) (by decide +kernel) rfl ?_
                intro y158
                refine ev_r_ldc2 (pc := 100) (y := 428) (k := 4294967295) (by decide +kernel) (by decide +kernel) ?_
                refine ev_r_toL (pc := 103) (i := .land) (len := 1) (pc' := 104) (by decide +kernel) rfl ?_
                intro y159
                refine ev_r_goto (pc := 104) (o := 9) (t := 113) (by decide +kernel) (by decide +kernel) ?_
                exact hK113 y159 s143 _ (by exact e140) (by exact e141)
          · intro K77 hK77
            refine ev_r_if (pc := 55) (q := .eq) (o := 16) (t := 71) (c := x137 = 0) (by decide +kernel) (ev_k_eq hx137 ev_rng0) (by decide +kernel) ?_ ?_
            · intro c160
              refine ev_r_aload_n (pc := 71) (k := 0) (v := .ref 621) trivial (by decide +kernel) (by exact (ev_l1 (ev_l1 (ev_l1 e3 (by decide) (by decide)) (by decide) (by decide)) (by decide) (by decide))) ?_
              refine ev_r_getC (pc := 72) (y := 99) (ci := 13) (f := 43) (fin := 1) (k' := 651) (by decide +kernel) (by decide +kernel) (by exact ev_ob_621) rfl rfl ?_
              refine ev_r_iload_n (pc := 75) (k := 1) (v := Int32.ofInt x1) (by decide +kernel) (by exact (ev_l1 (ev_l1 (ev_lk_st1 e4 (by decide) rfl) (by decide) (by decide)) (by decide) (by decide))) ?_
              refine ev_r_lald (pc := 76) hx1 (by decide +kernel) (by exact ev_ab_651) ?_
              intro y161
              exact hK77 y161 s136 _ (by exact (ev_l1 (ev_l1 (ev_l1 e3 (by decide) (by decide)) (by decide) (by decide)) (by decide) (by decide))) (by exact (ev_l1 (ev_l1 (ev_lk_st1 e4 (by decide) rfl) (by decide) (by decide)) (by decide) (by decide)))
            · intro c160
              refine ev_r_aload_n (pc := 58) (k := 0) (v := .ref 621) trivial (by decide +kernel) (by exact (ev_l1 (ev_l1 (ev_l1 e3 (by decide) (by decide)) (by decide) (by decide)) (by decide) (by decide))) ?_
              refine ev_r_getC (pc := 59) (y := 99) (ci := 13) (f := 43) (fin := 1) (k' := 651) (by decide +kernel) (by decide +kernel) (by exact ev_ob_621) rfl rfl ?_
              refine ev_r_iload_n (pc := 62) (k := 1) (v := Int32.ofInt x1) (by decide +kernel) (by exact (ev_l1 (ev_l1 (ev_lk_st1 e4 (by decide) rfl) (by decide) (by decide)) (by decide) (by decide))) ?_
              refine ev_r_lald (pc := 63) hx1 (by decide +kernel) (by exact ev_ab_651) ?_
              intro y162
              refine ev_r_ldc2 (pc := 64) (y := 407) (k := -1) (by decide +kernel) (by decide +kernel) ?_
              refine ev_r_toL (pc := 67) (i := .lxor) (len := 1) (pc' := 68) (by decide +kernel) rfl ?_
              intro y163
              refine ev_r_goto (pc := 68) (o := 9) (t := 77) (by decide +kernel) (by decide +kernel) ?_
              exact hK77 y163 s136 _ (by exact (ev_l1 (ev_l1 (ev_l1 e3 (by decide) (by decide)) (by decide) (by decide)) (by decide) (by decide))) (by exact (ev_l1 (ev_l1 (ev_lk_st1 e4 (by decide) rfl) (by decide) (by decide)) (by decide) (by decide)))
theorem jlt_253_7 (d : Nat) (hd : 6 ≤ d + 1) (Q : Nat)     : ∀ q : Nat, ∀ (x1 : Int) (hx1 : ev_rng x1), ∀ (s5 : ev_St) (w2 : List (Nat × Value)), ev_lk w2 0 = some (.ref 621) → ev_lk w2 1 = some (.int (Int32.ofInt x1)) → ev_w none (ev_Mof 253) d 7 w2 [] s5 (jl_253_7 Q   q x1 s5) ev_eU ev_PU := by
  intro q
  induction q with
  | zero =>
    intro x1 hx1 s5 w2 e3 e4
    exact ev_w_none
  | succ q ih => exact jbt_253_7 d hd Q     _ ih
/-- MendBenchModel.klass()V -/
def jm_253 (Q : Nat)  (S : ev_St) : Option ((Unit) × ev_St) := ev_bd (jm_252 Q 0 S) fun _ s164 => jl_253_7 Q   Q 0 s164
theorem jt_253 (d : Nat) (hd : 6 ≤ d) (Q : Nat)   (S : ev_St) (x : Unit) (S' : ev_St) (hJ : jm_253 Q  S = some (x, S')) : ev_Ref d 253 [.ref 621] S (ev_eU x) S' (ev_PU x) := by
  obtain ⟨d, rfl⟩ : ∃ e, d = e + 1 := ⟨d - 1, by omega⟩
  refine ev_ref_of (P := ev_PU) (lv := [(0, .ref 621)]) (by decide +kernel) (by (try simp only [ev_sum, ev_nv_cat]); first | done | rfl) (by (try simp only [lv_args, ev_nv_cat]); first | done | rfl) ?_ x S' hJ
  unfold jm_253
  refine ev_r_iconst (pc := 0) (k := 0) (by decide +kernel) ?_
  refine ev_r_istore_n (pc := 1) (k := 1) (by decide +kernel) (by decide +kernel) rfl ?_
  refine ev_r_aload_n (pc := 2) (k := 0) (v := .ref 621) trivial (by decide +kernel) (by exact (ev_lk_st1 (by rfl) (by decide) rfl)) ?_
  refine ev_r_iconst (pc := 3) (k := 0) (by decide +kernel) ?_
  refine ev_r_virt (pc := 4) (y := 419) (mi := 252) (na := 1) (k := 621) (as := [.int (Int32.ofInt 0)]) (rest := []) (encc := ev_oU) (Q := ev_PU) (fun x S1 h => jt_252 d (by omega) Q 0 (by decide) S x S1 h) (by exact ev_ob_621) (by decide +kernel) (by decide +kernel) (by decide +kernel) (by decide +kernel) rfl (by (try simp only [ev_sum, ev_nv_cat]); first | done | rfl) ?_
  intro _ s164 _
  show ev_w _ _ _ _ _ [] _ _ _ _
  exact jlt_253_7 d hd Q     Q 0 (by decide) s164 _ (by exact (ev_lk_st1 (by rfl) (by decide) rfl)) (by exact ev_lk_st1_self)
def jb_254_4 (Q : Nat)   (K4 : Int → Int → ev_St → Option ((Int) × ev_St)) (x1 : Int) (x2 : Int) (s7 : ev_St) : Option ((Int) × ev_St) := ev_jn (fun  (s10 : ev_St) => if x1 ≤ 20 then (some (x1, s10)) else (some ((-1), s10))) fun K54 => if 2 ≤ x2 then (K54  s7) else (ev_bd (jm_233 Q 0 s7) fun x14 s13 => ev_bd (jm_226 Q x14 s13) fun x16 s15 => if x16 = 0 then (K54  s15) else (ev_jn (fun (x18 : Int) (s22 : ev_St) => ev_bd (jm_233 Q 0 s22) fun x24 s23 => ev_ck (x18 + x24) fun x25 => ev_ck (x25 - 48) fun x26 => ev_bd (jm_234 Q 1 s23) fun _ s27 => ev_ck (x2 + 1) fun x28 => K4 x26 x28 s27) fun K33 => if x1 ≠ (-1) then (ev_ck (10 * x1) fun x30 => K33 x30 s15) else (K33 0 s15)))
def jl_254_4 (Q : Nat)   : Nat → Int → Int → ev_St → Option ((Int) × ev_St)
  | 0 => fun _ _ _ => none
  | q + 1 => jb_254_4 Q   (jl_254_4 Q   q)
theorem jbt_254_4 (d : Nat) (hd : 3 ≤ d + 1) (Q : Nat)     (K4 : Int → Int → ev_St → Option ((Int) × ev_St)) (hK4 : ∀ (x1 : Int) (hx1 : ev_rng x1), ∀ (x2 : Int) (hx2 : ev_rng x2), ∀ (s7 : ev_St) (w3 : List (Nat × Value)), ev_lk w3 0 = some (.ref 621) → ev_lk w3 1 = some (.int (Int32.ofInt x1)) → ev_lk w3 2 = some (.int (Int32.ofInt x2)) → ev_w none (ev_Mof 254) d 4 w3 [] s7 (K4 x1 x2 s7) ev_eI ev_rng) : ∀ (x1 : Int) (hx1 : ev_rng x1), ∀ (x2 : Int) (hx2 : ev_rng x2), ∀ (s7 : ev_St) (w3 : List (Nat × Value)), ev_lk w3 0 = some (.ref 621) → ev_lk w3 1 = some (.int (Int32.ofInt x1)) → ev_lk w3 2 = some (.int (Int32.ofInt x2)) → ev_w none (ev_Mof 254) d 4 w3 [] s7 (jb_254_4 Q   K4 x1 x2 s7) ev_eI ev_rng := by
  intro x1 hx1 x2 hx2 s7 w3 e4 e5 e6
  unfold jb_254_4
  refine ev_r_iload_n (pc := 4) (k := 2) (v := Int32.ofInt x2) (by decide +kernel) (by exact e6) ?_
  refine ev_r_iconst (pc := 5) (k := 2) (by decide +kernel) ?_
  refine ev_r_jn (Q := fun K => ∀ (s10 : ev_St) (w8 : List (Nat × Value)), ev_lk w8 1 = some (.int (Int32.ofInt x1)) → ev_w none (ev_Mof 254) d 54 w8 [] s10 (K  s10) ev_eI ev_rng) ?_ ?_
  · intro  s10 w8 e9
    refine ev_r_iload_n (pc := 54) (k := 1) (v := Int32.ofInt x1) (by decide +kernel) (by exact e9) ?_
    refine ev_r_bipush (pc := 55) (k := 20) (by decide +kernel) (by decide +kernel) ?_
    refine ev_r_icmp (pc := 57) (q := .le) (o := 7) (t := 64) (c := x1 ≤ 20) (by decide +kernel) (ev_k_le hx1 (by decide)) (by decide +kernel) ?_ ?_
    · intro c11
      refine ev_r_iload_n (pc := 64) (k := 1) (v := Int32.ofInt x1) (by decide +kernel) (by exact e9) ?_
      exact ev_r_ireturn (pc := 65) (x := x1) (v := Int32.ofInt x1) (ty := .int) hx1 (by decide +kernel) (by decide +kernel) rfl rfl
    · intro c11
      refine ev_r_iconst (pc := 60) (k := -1) (by decide +kernel) ?_
      refine ev_r_goto (pc := 61) (o := 4) (t := 65) (by decide +kernel) (by decide +kernel) ?_
      exact ev_r_ireturn (pc := 65) (x := (-1)) (v := Int32.ofInt ((-1))) (ty := .int) (by decide) (by decide +kernel) (by decide +kernel) rfl rfl
  · intro K54 hK54
    refine ev_r_icmp (pc := 6) (q := .ge) (o := 48) (t := 54) (c := 2 ≤ x2) (by decide +kernel) (ev_k_ge hx2 (by decide)) (by decide +kernel) ?_ ?_
    · intro c12
      exact hK54  s7 _ (by exact e5)
    · intro c12
      refine ev_r_aload_n (pc := 9) (k := 0) (v := .ref 621) trivial (by decide +kernel) (by exact e4) ?_
      refine ev_r_iconst (pc := 10) (k := 0) (by decide +kernel) ?_
      refine ev_r_virt (pc := 11) (y := 409) (mi := 233) (na := 1) (k := 621) (as := [.int (Int32.ofInt 0)]) (rest := []) (encc := ev_oI) (Q := ev_rng) (fun x S1 h => jt_233 d (by omega) Q 0 (by decide) s7 x S1 h) (by exact ev_ob_621) (by decide +kernel) (by decide +kernel) (by decide +kernel) (by decide +kernel) rfl (by (try simp only [ev_sum, ev_nv_cat]); first | done | rfl) ?_
      intro x14 s13 hx14
      show ev_w _ _ _ _ _ [.int (Int32.ofInt x14)] _ _ _ _
      refine ev_r_stat (pc := 14) (y := 336) (kind := 2) (mi := 226) (na := 1) (as := [.int (Int32.ofInt x14)]) (rest := []) (encc := ev_oI) (Q := ev_bl) (fun x S1 h => jt_226 d (by omega) Q x14 hx14 s13 x S1 h) (Or.inl rfl) (by decide +kernel) (by decide +kernel) (by decide +kernel) (by decide +kernel) rfl (by (try simp only [ev_sum, ev_nv_cat]); first | done | rfl) ?_
      intro x16 s15 hx16
      replace hx16 := ev_bl_rng hx16
      show ev_w _ _ _ _ _ [.int (Int32.ofInt x16)] _ _ _ _
      refine ev_r_if (pc := 17) (q := .eq) (o := 37) (t := 54) (c := x16 = 0) (by decide +kernel) (ev_k_eq hx16 ev_rng0) (by decide +kernel) ?_ ?_
      · intro c17
        exact hK54  s15 _ (by exact e5)
      · intro c17
        refine ev_r_iload_n (pc := 20) (k := 1) (v := Int32.ofInt x1) (by decide +kernel) (by exact e5) ?_
        refine ev_r_iconst (pc := 21) (k := -1) (by decide +kernel) ?_
        refine ev_r_jn (Q := fun K => ∀ (x18 : Int) (hx18 : ev_rng x18), ∀ (s22 : ev_St) (w19 : List (Nat × Value)), ev_lk w19 0 = some (.ref 621) → ev_lk w19 2 = some (.int (Int32.ofInt x2)) → ev_w none (ev_Mof 254) d 33 w19 [.int (Int32.ofInt x18)] s22 (K x18 s22) ev_eI ev_rng) ?_ ?_
        · intro x18 hx18 s22 w19 e20 e21
          refine ev_r_aload_n (pc := 33) (k := 0) (v := .ref 621) trivial (by decide +kernel) (by exact e20) ?_
          refine ev_r_iconst (pc := 34) (k := 0) (by decide +kernel) ?_
          refine ev_r_virt (pc := 35) (y := 409) (mi := 233) (na := 1) (k := 621) (as := [.int (Int32.ofInt 0)]) (rest := [.int (Int32.ofInt x18)]) (encc := ev_oI) (Q := ev_rng) (fun x S1 h => jt_233 d (by omega) Q 0 (by decide) s22 x S1 h) (by exact ev_ob_621) (by decide +kernel) (by decide +kernel) (by decide +kernel) (by decide +kernel) rfl (by (try simp only [ev_sum, ev_nv_cat]); first | done | rfl) ?_
          intro x24 s23 hx24
          show ev_w _ _ _ _ _ [.int (Int32.ofInt x24), .int (Int32.ofInt x18)] _ _ _ _
          refine ev_r_iadd (pc := 38) (by decide +kernel) ?_
          intro x25 hx25
          refine ev_r_bipush (pc := 39) (k := 48) (by decide +kernel) (by decide +kernel) ?_
          refine ev_r_isub (pc := 41) (by decide +kernel) ?_
          intro x26 hx26
          refine ev_r_istore_n (pc := 42) (k := 1) (by decide +kernel) (by decide +kernel) rfl ?_
          refine ev_r_aload_n (pc := 43) (k := 0) (v := .ref 621) trivial (by decide +kernel) (by exact (ev_lk_st1 e20 (by decide) rfl)) ?_
          refine ev_r_iconst (pc := 44) (k := 1) (by decide +kernel) ?_
          refine ev_r_virt (pc := 45) (y := 415) (mi := 234) (na := 1) (k := 621) (as := [.int (Int32.ofInt 1)]) (rest := []) (encc := ev_oU) (Q := ev_PU) (fun x S1 h => jt_234 d (by omega) Q 1 (by decide) s23 x S1 h) (by exact ev_ob_621) (by decide +kernel) (by decide +kernel) (by decide +kernel) (by decide +kernel) rfl (by (try simp only [ev_sum, ev_nv_cat]); first | done | rfl) ?_
          intro _ s27 _
          show ev_w _ _ _ _ _ [] _ _ _ _
          refine ev_r_iinc (pc := 48) (k := 2) (c := 1) (x := x2) (by decide +kernel) (by decide +kernel) (by exact (ev_l1 e21 (by decide) (by decide))) (fun _ => rfl) ?_
          intro x28 hx28
          refine ev_r_goto (pc := 51) (o := (-47)) (t := 4) (by decide +kernel) (by decide +kernel) ?_
          exact hK4 x26 hx26 x28 hx28 s27 _ (by exact (ev_l1 (ev_lk_st1 e20 (by decide) rfl) (by decide) (by decide))) (by exact (ev_lk_st1 ev_lk_st1_self (by decide) rfl)) (by exact ev_lk_st1_self)
        · intro K33 hK33
          refine ev_r_icmp (pc := 22) (q := .ne) (o := 7) (t := 29) (c := x1 ≠ (-1)) (by decide +kernel) (ev_k_ne hx1 (by decide)) (by decide +kernel) ?_ ?_
          · intro c29
            refine ev_r_bipush (pc := 29) (k := 10) (by decide +kernel) (by decide +kernel) ?_
            refine ev_r_iload_n (pc := 31) (k := 1) (v := Int32.ofInt x1) (by decide +kernel) (by exact e5) ?_
            refine ev_r_imul (pc := 32) (by decide +kernel) ?_
            intro x30 hx30
            exact hK33 x30 hx30 s15 _ (by exact e4) (by exact e6)
          · intro c29
            refine ev_r_iconst (pc := 25) (k := 0) (by decide +kernel) ?_
            refine ev_r_goto (pc := 26) (o := 7) (t := 33) (by decide +kernel) (by decide +kernel) ?_
            exact hK33 0 (by decide) s15 _ (by exact e4) (by exact e6)
theorem jlt_254_4 (d : Nat) (hd : 3 ≤ d + 1) (Q : Nat)     : ∀ q : Nat, ∀ (x1 : Int) (hx1 : ev_rng x1), ∀ (x2 : Int) (hx2 : ev_rng x2), ∀ (s7 : ev_St) (w3 : List (Nat × Value)), ev_lk w3 0 = some (.ref 621) → ev_lk w3 1 = some (.int (Int32.ofInt x1)) → ev_lk w3 2 = some (.int (Int32.ofInt x2)) → ev_w none (ev_Mof 254) d 4 w3 [] s7 (jl_254_4 Q   q x1 x2 s7) ev_eI ev_rng := by
  intro q
  induction q with
  | zero =>
    intro x1 hx1 x2 hx2 s7 w3 e4 e5 e6
    exact ev_w_none
  | succ q ih => exact jbt_254_4 d hd Q     _ ih
/-- MendBenchModel.number()I -/
def jm_254 (Q : Nat)  (S : ev_St) : Option ((Int) × ev_St) := jl_254_4 Q   Q ((-1)) 0 S
theorem jt_254 (d : Nat) (hd : 3 ≤ d) (Q : Nat)   (S : ev_St) (x : Int) (S' : ev_St) (hJ : jm_254 Q  S = some (x, S')) : ev_Ref d 254 [.ref 621] S (ev_eI x) S' (ev_rng x) := by
  obtain ⟨d, rfl⟩ : ∃ e, d = e + 1 := ⟨d - 1, by omega⟩
  refine ev_ref_of (P := ev_rng) (lv := [(0, .ref 621)]) (by decide +kernel) (by (try simp only [ev_sum, ev_nv_cat]); first | done | rfl) (by (try simp only [lv_args, ev_nv_cat]); first | done | rfl) ?_ x S' hJ
  unfold jm_254
  refine ev_r_iconst (pc := 0) (k := -1) (by decide +kernel) ?_
  refine ev_r_istore_n (pc := 1) (k := 1) (by decide +kernel) (by decide +kernel) rfl ?_
  refine ev_r_iconst (pc := 2) (k := 0) (by decide +kernel) ?_
  refine ev_r_istore_n (pc := 3) (k := 2) (by decide +kernel) (by decide +kernel) rfl ?_
  exact jlt_254_4 d hd Q     Q ((-1)) (by decide) 0 (by decide) S _ (by exact (ev_l1 (ev_lk_st1 (by rfl) (by decide) rfl) (by decide) (by decide))) (by exact (ev_lk_st1 ev_lk_st1_self (by decide) rfl)) (by exact ev_lk_st1_self)
