/-! METHODS as functions, laid by decomp.py -/
/-- MendBenchLaw.place(LMendBench;I[J)I -/
def jm_385 (Q : Nat) (a0 : Nat) (a1 : Int) (a2 : Nat) (S : ev_St) : Option ((Int) × ev_St) := ev_if (a0 ≠ 0) (ev_bx (jm_188 Q a1 S) (fun x3 s2 => ev_b (ev_i2l x3) fun y4 => ev_if (a2 ≠ 0) (ev_if ((0 : Int) ≤ 0 ∧ 0 < (ev_aln ((a2 - 1)) : Int)) (ev_b (ev_pL s2 ((a2 - 1)) (Int.toNat 0) y4) fun s6 => some (0, s6)))) fun E7 s8 => if E7 = "java/lang/IndexOutOfBoundsException" then some (1, s8) else none)
theorem jt_385 (d : Nat) (hd : 7 ≤ d) (Q : Nat) (a0 : Nat) (a1 : Int) (a2 : Nat) (ha0 : a0 = 0 ∨ ev_isOb (a0 - 1) 12 = true) (ha1 : ev_rng a1) (ha2 : a2 = 0 ∨ ev_isAb (a2 - 1) 2 .long = true) (S : ev_St) (x : Int) (S' : ev_St) (hJ : jm_385 Q a0 a1 a2 S = some (x, S')) : ev_Ref d 385 [ev_nv a0, .int (Int32.ofInt a1), ev_nv a2] S (ev_eI x) S' (ev_rng x) := by
  obtain ⟨d, rfl⟩ : ∃ e, d = e + 1 := ⟨d - 1, by omega⟩
  refine ev_ref_of (P := ev_rng) (lv := [(0, ev_nv a0), (1, .int (Int32.ofInt a1)), (2, ev_nv a2)]) (by decide +kernel) (by (try simp only [ev_sum, ev_nv_cat]); first | done | rfl) (by (try simp only [lv_args, ev_nv_cat]); first | done | rfl) ?_ x S' hJ
  unfold jm_385
  refine ev_r_aload_n (pc := 0) (k := 2) (v := ev_nv a2) (ev_isR_nv _) (by decide +kernel) (by rfl) ?_
  refine ev_r_iconst (pc := 1) (k := 0) (by decide +kernel) ?_
  refine ev_r_aload_n (pc := 2) (k := 0) (v := ev_nv a0) (ev_isR_nv _) (by decide +kernel) (by rfl) ?_
  refine ev_r_iload_n (pc := 3) (k := 1) (v := Int32.ofInt a1) (by decide +kernel) (by rfl) ?_
  refine ev_r_chk ?_
  intro c1
  refine ev_r_dr2 (r := a0) (k := 0) (fun v => [.int (Int32.ofInt a1), v, .int (Int32.ofInt 0), ev_nv a2]) c1 (ev_on_12 (ha0.resolve_left c1)) ?_
  refine ev_r_virtX (pc := 4) (y := 87) (mi := 188) (na := 1) (k := 0) (as := [.int (Int32.ofInt a1)]) (rest := [.int (Int32.ofInt 0), ev_nv a2]) (fun x S1 h => jt_188 d (by omega) Q a1 ha1 S x S1 h) (by exact ev_ob_0) (by decide +kernel) (by decide +kernel) (by decide +kernel) (by decide +kernel) rfl (by (try simp only [ev_sum, ev_nv_cat]); first | done | rfl) ?_ ?_
  · intro x3 s2 hx3
    show ev_w _ _ _ _ _ [.int (Int32.ofInt x3), .int (Int32.ofInt 0), ev_nv a2] _ _ _ _
    refine ev_r_toL (pc := 7) (i := .i2l) (len := 1) (pc' := 8) (by decide +kernel) rfl ?_
    intro y4
    refine ev_r_chk ?_
    intro c5
    refine ev_r_dr (r := a2) (fun v => [.long y4, .int (Int32.ofInt 0), v]) c5 ?_
    refine ev_r_last (pc := 8) (by decide) (by decide +kernel) (by exact (ha2.resolve_left c5)) ?_
    intro s6
    refine ev_r_goto (pc := 9) (o := 6) (t := 15) (by decide +kernel) (by decide +kernel) ?_
    refine ev_r_iconst (pc := 15) (k := 0) (by decide +kernel) ?_
    exact ev_r_ireturn (pc := 16) (x := 0) (v := Int32.ofInt 0) (ty := .int) (by decide) (by decide +kernel) (by decide +kernel) rfl rfl
  · intro E7 s8
    by_cases g0 : E7 = "java/lang/IndexOutOfBoundsException"
    · subst g0
      refine Or.inl ⟨12, (by decide +kernel), ?_⟩
      show ev_w _ _ _ _ _ _ _ (if "java/lang/IndexOutOfBoundsException" = "java/lang/IndexOutOfBoundsException" then some (1, s8) else _) _ _
      rw [if_pos rfl]
      refine ev_r_astore_n (pc := 12) (k := 3) trivial (by decide +kernel) (by decide +kernel) rfl ?_
      refine ev_r_iconst (pc := 13) (k := 1) (by decide +kernel) ?_
      exact ev_r_ireturn (pc := 14) (x := 1) (v := Int32.ofInt 1) (ty := .int) (by decide) (by decide +kernel) (by decide +kernel) rfl rfl
    · skip
      refine Or.inr ?_
      show (if E7 = "java/lang/IndexOutOfBoundsException" then _ else none) = none
      rw [if_neg g0]
/-- MendBenchLaw.open(LMendBench;[J)I -/
def jm_386 (Q : Nat) (a0 : Nat) (a1 : Nat) (S : ev_St) : Option ((Int) × ev_St) := ev_if (a0 ≠ 0) (ev_bx (jm_189 Q  S) (fun x3 s2 => ev_b (ev_i2l x3) fun y4 => ev_if (a1 ≠ 0) (ev_if ((0 : Int) ≤ 0 ∧ 0 < (ev_aln ((a1 - 1)) : Int)) (ev_b (ev_pL s2 ((a1 - 1)) (Int.toNat 0) y4) fun s6 => some (0, s6)))) fun E7 s8 => if E7 = "java/lang/IllegalStateException" then some (1, s8) else none)
theorem jt_386 (d : Nat) (hd : 7 ≤ d) (Q : Nat) (a0 : Nat) (a1 : Nat) (ha0 : a0 = 0 ∨ ev_isOb (a0 - 1) 12 = true) (ha1 : a1 = 0 ∨ ev_isAb (a1 - 1) 2 .long = true) (S : ev_St) (x : Int) (S' : ev_St) (hJ : jm_386 Q a0 a1 S = some (x, S')) : ev_Ref d 386 [ev_nv a0, ev_nv a1] S (ev_eI x) S' (ev_rng x) := by
  obtain ⟨d, rfl⟩ : ∃ e, d = e + 1 := ⟨d - 1, by omega⟩
  refine ev_ref_of (P := ev_rng) (lv := [(0, ev_nv a0), (1, ev_nv a1)]) (by decide +kernel) (by (try simp only [ev_sum, ev_nv_cat]); first | done | rfl) (by (try simp only [lv_args, ev_nv_cat]); first | done | rfl) ?_ x S' hJ
  unfold jm_386
  refine ev_r_aload_n (pc := 0) (k := 1) (v := ev_nv a1) (ev_isR_nv _) (by decide +kernel) (by rfl) ?_
  refine ev_r_iconst (pc := 1) (k := 0) (by decide +kernel) ?_
  refine ev_r_aload_n (pc := 2) (k := 0) (v := ev_nv a0) (ev_isR_nv _) (by decide +kernel) (by rfl) ?_
  refine ev_r_chk ?_
  intro c1
  refine ev_r_dr2 (r := a0) (k := 0) (fun v => [v, .int (Int32.ofInt 0), ev_nv a1]) c1 (ev_on_12 (ha0.resolve_left c1)) ?_
  refine ev_r_virtX (pc := 3) (y := 90) (mi := 189) (na := 0) (k := 0) (as := []) (rest := [.int (Int32.ofInt 0), ev_nv a1]) (fun x S1 h => jt_189 d (by omega) Q   S x S1 h) (by exact ev_ob_0) (by decide +kernel) (by decide +kernel) (by decide +kernel) (by decide +kernel) rfl (by (try simp only [ev_sum, ev_nv_cat]); first | done | rfl) ?_ ?_
  · intro x3 s2 hx3
    show ev_w _ _ _ _ _ [.int (Int32.ofInt x3), .int (Int32.ofInt 0), ev_nv a1] _ _ _ _
    refine ev_r_toL (pc := 6) (i := .i2l) (len := 1) (pc' := 7) (by decide +kernel) rfl ?_
    intro y4
    refine ev_r_chk ?_
    intro c5
    refine ev_r_dr (r := a1) (fun v => [.long y4, .int (Int32.ofInt 0), v]) c5 ?_
    refine ev_r_last (pc := 7) (by decide) (by decide +kernel) (by exact (ha1.resolve_left c5)) ?_
    intro s6
    refine ev_r_goto (pc := 8) (o := 6) (t := 14) (by decide +kernel) (by decide +kernel) ?_
    refine ev_r_iconst (pc := 14) (k := 0) (by decide +kernel) ?_
    exact ev_r_ireturn (pc := 15) (x := 0) (v := Int32.ofInt 0) (ty := .int) (by decide) (by decide +kernel) (by decide +kernel) rfl rfl
  · intro E7 s8
    by_cases g0 : E7 = "java/lang/IllegalStateException"
    · subst g0
      refine Or.inl ⟨11, (by decide +kernel), ?_⟩
      show ev_w _ _ _ _ _ _ _ (if "java/lang/IllegalStateException" = "java/lang/IllegalStateException" then some (1, s8) else _) _ _
      rw [if_pos rfl]
      refine ev_r_astore_n (pc := 11) (k := 2) trivial (by decide +kernel) (by decide +kernel) rfl ?_
      refine ev_r_iconst (pc := 12) (k := 1) (by decide +kernel) ?_
      exact ev_r_ireturn (pc := 13) (x := 1) (v := Int32.ofInt 1) (ty := .int) (by decide) (by decide +kernel) (by decide +kernel) rfl rfl
    · skip
      refine Or.inr ?_
      show (if E7 = "java/lang/IllegalStateException" then _ else none) = none
      rw [if_neg g0]
/-- MendBenchLaw.shut(LMendBench;[J)I -/
def jm_387 (Q : Nat) (a0 : Nat) (a1 : Nat) (S : ev_St) : Option ((Int) × ev_St) := ev_if (a0 ≠ 0) (ev_bx (jm_190 Q  S) (fun x3 s2 => ev_b (ev_i2l x3) fun y4 => ev_if (a1 ≠ 0) (ev_if ((0 : Int) ≤ 0 ∧ 0 < (ev_aln ((a1 - 1)) : Int)) (ev_b (ev_pL s2 ((a1 - 1)) (Int.toNat 0) y4) fun s6 => some (0, s6)))) fun E7 s8 => if E7 = "java/lang/IllegalStateException" then some (1, s8) else none)
theorem jt_387 (d : Nat) (hd : 7 ≤ d) (Q : Nat) (a0 : Nat) (a1 : Nat) (ha0 : a0 = 0 ∨ ev_isOb (a0 - 1) 12 = true) (ha1 : a1 = 0 ∨ ev_isAb (a1 - 1) 2 .long = true) (S : ev_St) (x : Int) (S' : ev_St) (hJ : jm_387 Q a0 a1 S = some (x, S')) : ev_Ref d 387 [ev_nv a0, ev_nv a1] S (ev_eI x) S' (ev_rng x) := by
  obtain ⟨d, rfl⟩ : ∃ e, d = e + 1 := ⟨d - 1, by omega⟩
  refine ev_ref_of (P := ev_rng) (lv := [(0, ev_nv a0), (1, ev_nv a1)]) (by decide +kernel) (by (try simp only [ev_sum, ev_nv_cat]); first | done | rfl) (by (try simp only [lv_args, ev_nv_cat]); first | done | rfl) ?_ x S' hJ
  unfold jm_387
  refine ev_r_aload_n (pc := 0) (k := 1) (v := ev_nv a1) (ev_isR_nv _) (by decide +kernel) (by rfl) ?_
  refine ev_r_iconst (pc := 1) (k := 0) (by decide +kernel) ?_
  refine ev_r_aload_n (pc := 2) (k := 0) (v := ev_nv a0) (ev_isR_nv _) (by decide +kernel) (by rfl) ?_
  refine ev_r_chk ?_
  intro c1
  refine ev_r_dr2 (r := a0) (k := 0) (fun v => [v, .int (Int32.ofInt 0), ev_nv a1]) c1 (ev_on_12 (ha0.resolve_left c1)) ?_
  refine ev_r_virtX (pc := 3) (y := 93) (mi := 190) (na := 0) (k := 0) (as := []) (rest := [.int (Int32.ofInt 0), ev_nv a1]) (fun x S1 h => jt_190 d (by omega) Q   S x S1 h) (by exact ev_ob_0) (by decide +kernel) (by decide +kernel) (by decide +kernel) (by decide +kernel) rfl (by (try simp only [ev_sum, ev_nv_cat]); first | done | rfl) ?_ ?_
  · intro x3 s2 hx3
    show ev_w _ _ _ _ _ [.int (Int32.ofInt x3), .int (Int32.ofInt 0), ev_nv a1] _ _ _ _
    refine ev_r_toL (pc := 6) (i := .i2l) (len := 1) (pc' := 7) (by decide +kernel) rfl ?_
    intro y4
    refine ev_r_chk ?_
    intro c5
    refine ev_r_dr (r := a1) (fun v => [.long y4, .int (Int32.ofInt 0), v]) c5 ?_
    refine ev_r_last (pc := 7) (by decide) (by decide +kernel) (by exact (ha1.resolve_left c5)) ?_
    intro s6
    refine ev_r_goto (pc := 8) (o := 6) (t := 14) (by decide +kernel) (by decide +kernel) ?_
    refine ev_r_iconst (pc := 14) (k := 0) (by decide +kernel) ?_
    exact ev_r_ireturn (pc := 15) (x := 0) (v := Int32.ofInt 0) (ty := .int) (by decide) (by decide +kernel) (by decide +kernel) rfl rfl
  · intro E7 s8
    by_cases g0 : E7 = "java/lang/IllegalStateException"
    · subst g0
      refine Or.inl ⟨11, (by decide +kernel), ?_⟩
      show ev_w _ _ _ _ _ _ _ (if "java/lang/IllegalStateException" = "java/lang/IllegalStateException" then some (1, s8) else _) _ _
      rw [if_pos rfl]
      refine ev_r_astore_n (pc := 11) (k := 2) trivial (by decide +kernel) (by decide +kernel) rfl ?_
      refine ev_r_iconst (pc := 12) (k := 1) (by decide +kernel) ?_
      exact ev_r_ireturn (pc := 13) (x := 1) (v := Int32.ofInt 1) (ty := .int) (by decide) (by decide +kernel) (by decide +kernel) rfl rfl
    · skip
      refine Or.inr ?_
      show (if E7 = "java/lang/IllegalStateException" then _ else none) = none
      rw [if_neg g0]
/-- MendBenchLaw.undo(LMendBench;[J)I -/
def jm_388 (Q : Nat) (a0 : Nat) (a1 : Nat) (S : ev_St) : Option ((Int) × ev_St) := ev_if (a0 ≠ 0) (ev_bx (jm_191 Q  S) (fun x3 s2 => ev_b (ev_i2l x3) fun y4 => ev_if (a1 ≠ 0) (ev_if ((0 : Int) ≤ 0 ∧ 0 < (ev_aln ((a1 - 1)) : Int)) (ev_b (ev_pL s2 ((a1 - 1)) (Int.toNat 0) y4) fun s6 => some (0, s6)))) fun E7 s8 => if E7 = "java/lang/IllegalStateException" then some (1, s8) else none)
theorem jt_388 (d : Nat) (hd : 7 ≤ d) (Q : Nat) (a0 : Nat) (a1 : Nat) (ha0 : a0 = 0 ∨ ev_isOb (a0 - 1) 12 = true) (ha1 : a1 = 0 ∨ ev_isAb (a1 - 1) 2 .long = true) (S : ev_St) (x : Int) (S' : ev_St) (hJ : jm_388 Q a0 a1 S = some (x, S')) : ev_Ref d 388 [ev_nv a0, ev_nv a1] S (ev_eI x) S' (ev_rng x) := by
  obtain ⟨d, rfl⟩ : ∃ e, d = e + 1 := ⟨d - 1, by omega⟩
  refine ev_ref_of (P := ev_rng) (lv := [(0, ev_nv a0), (1, ev_nv a1)]) (by decide +kernel) (by (try simp only [ev_sum, ev_nv_cat]); first | done | rfl) (by (try simp only [lv_args, ev_nv_cat]); first | done | rfl) ?_ x S' hJ
  unfold jm_388
  refine ev_r_aload_n (pc := 0) (k := 1) (v := ev_nv a1) (ev_isR_nv _) (by decide +kernel) (by rfl) ?_
  refine ev_r_iconst (pc := 1) (k := 0) (by decide +kernel) ?_
  refine ev_r_aload_n (pc := 2) (k := 0) (v := ev_nv a0) (ev_isR_nv _) (by decide +kernel) (by rfl) ?_
  refine ev_r_chk ?_
  intro c1
  refine ev_r_dr2 (r := a0) (k := 0) (fun v => [v, .int (Int32.ofInt 0), ev_nv a1]) c1 (ev_on_12 (ha0.resolve_left c1)) ?_
  refine ev_r_virtX (pc := 3) (y := 96) (mi := 191) (na := 0) (k := 0) (as := []) (rest := [.int (Int32.ofInt 0), ev_nv a1]) (fun x S1 h => jt_191 d (by omega) Q   S x S1 h) (by exact ev_ob_0) (by decide +kernel) (by decide +kernel) (by decide +kernel) (by decide +kernel) rfl (by (try simp only [ev_sum, ev_nv_cat]); first | done | rfl) ?_ ?_
  · intro x3 s2 hx3
    show ev_w _ _ _ _ _ [.int (Int32.ofInt x3), .int (Int32.ofInt 0), ev_nv a1] _ _ _ _
    refine ev_r_toL (pc := 6) (i := .i2l) (len := 1) (pc' := 7) (by decide +kernel) rfl ?_
    intro y4
    refine ev_r_chk ?_
    intro c5
    refine ev_r_dr (r := a1) (fun v => [.long y4, .int (Int32.ofInt 0), v]) c5 ?_
    refine ev_r_last (pc := 7) (by decide) (by decide +kernel) (by exact (ha1.resolve_left c5)) ?_
    intro s6
    refine ev_r_goto (pc := 8) (o := 6) (t := 14) (by decide +kernel) (by decide +kernel) ?_
    refine ev_r_iconst (pc := 14) (k := 0) (by decide +kernel) ?_
    exact ev_r_ireturn (pc := 15) (x := 0) (v := Int32.ofInt 0) (ty := .int) (by decide) (by decide +kernel) (by decide +kernel) rfl rfl
  · intro E7 s8
    by_cases g0 : E7 = "java/lang/IllegalStateException"
    · subst g0
      refine Or.inl ⟨11, (by decide +kernel), ?_⟩
      show ev_w _ _ _ _ _ _ _ (if "java/lang/IllegalStateException" = "java/lang/IllegalStateException" then some (1, s8) else _) _ _
      rw [if_pos rfl]
      refine ev_r_astore_n (pc := 11) (k := 2) trivial (by decide +kernel) (by decide +kernel) rfl ?_
      refine ev_r_iconst (pc := 12) (k := 1) (by decide +kernel) ?_
      exact ev_r_ireturn (pc := 13) (x := 1) (v := Int32.ofInt 1) (ty := .int) (by decide) (by decide +kernel) (by decide +kernel) rfl rfl
    · skip
      refine Or.inr ?_
      show (if E7 = "java/lang/IllegalStateException" then _ else none) = none
      rw [if_neg g0]
/-- MendBenchLaw.redo(LMendBench;[J)I -/
def jm_389 (Q : Nat) (a0 : Nat) (a1 : Nat) (S : ev_St) : Option ((Int) × ev_St) := ev_if (a0 ≠ 0) (ev_bx (jm_192 Q  S) (fun x3 s2 => ev_b (ev_i2l x3) fun y4 => ev_if (a1 ≠ 0) (ev_if ((0 : Int) ≤ 0 ∧ 0 < (ev_aln ((a1 - 1)) : Int)) (ev_b (ev_pL s2 ((a1 - 1)) (Int.toNat 0) y4) fun s6 => some (0, s6)))) fun E7 s8 => if E7 = "java/lang/IllegalStateException" then some (1, s8) else none)
theorem jt_389 (d : Nat) (hd : 7 ≤ d) (Q : Nat) (a0 : Nat) (a1 : Nat) (ha0 : a0 = 0 ∨ ev_isOb (a0 - 1) 12 = true) (ha1 : a1 = 0 ∨ ev_isAb (a1 - 1) 2 .long = true) (S : ev_St) (x : Int) (S' : ev_St) (hJ : jm_389 Q a0 a1 S = some (x, S')) : ev_Ref d 389 [ev_nv a0, ev_nv a1] S (ev_eI x) S' (ev_rng x) := by
  obtain ⟨d, rfl⟩ : ∃ e, d = e + 1 := ⟨d - 1, by omega⟩
  refine ev_ref_of (P := ev_rng) (lv := [(0, ev_nv a0), (1, ev_nv a1)]) (by decide +kernel) (by (try simp only [ev_sum, ev_nv_cat]); first | done | rfl) (by (try simp only [lv_args, ev_nv_cat]); first | done | rfl) ?_ x S' hJ
  unfold jm_389
  refine ev_r_aload_n (pc := 0) (k := 1) (v := ev_nv a1) (ev_isR_nv _) (by decide +kernel) (by rfl) ?_
  refine ev_r_iconst (pc := 1) (k := 0) (by decide +kernel) ?_
  refine ev_r_aload_n (pc := 2) (k := 0) (v := ev_nv a0) (ev_isR_nv _) (by decide +kernel) (by rfl) ?_
  refine ev_r_chk ?_
  intro c1
  refine ev_r_dr2 (r := a0) (k := 0) (fun v => [v, .int (Int32.ofInt 0), ev_nv a1]) c1 (ev_on_12 (ha0.resolve_left c1)) ?_
  refine ev_r_virtX (pc := 3) (y := 99) (mi := 192) (na := 0) (k := 0) (as := []) (rest := [.int (Int32.ofInt 0), ev_nv a1]) (fun x S1 h => jt_192 d (by omega) Q   S x S1 h) (by exact ev_ob_0) (by decide +kernel) (by decide +kernel) (by decide +kernel) (by decide +kernel) rfl (by (try simp only [ev_sum, ev_nv_cat]); first | done | rfl) ?_ ?_
  · intro x3 s2 hx3
    show ev_w _ _ _ _ _ [.int (Int32.ofInt x3), .int (Int32.ofInt 0), ev_nv a1] _ _ _ _
    refine ev_r_toL (pc := 6) (i := .i2l) (len := 1) (pc' := 7) (by decide +kernel) rfl ?_
    intro y4
    refine ev_r_chk ?_
    intro c5
    refine ev_r_dr (r := a1) (fun v => [.long y4, .int (Int32.ofInt 0), v]) c5 ?_
    refine ev_r_last (pc := 7) (by decide) (by decide +kernel) (by exact (ha1.resolve_left c5)) ?_
    intro s6
    refine ev_r_goto (pc := 8) (o := 6) (t := 14) (by decide +kernel) (by decide +kernel) ?_
    refine ev_r_iconst (pc := 14) (k := 0) (by decide +kernel) ?_
    exact ev_r_ireturn (pc := 15) (x := 0) (v := Int32.ofInt 0) (ty := .int) (by decide) (by decide +kernel) (by decide +kernel) rfl rfl
  · intro E7 s8
    by_cases g0 : E7 = "java/lang/IllegalStateException"
    · subst g0
      refine Or.inl ⟨11, (by decide +kernel), ?_⟩
      show ev_w _ _ _ _ _ _ _ (if "java/lang/IllegalStateException" = "java/lang/IllegalStateException" then some (1, s8) else _) _ _
      rw [if_pos rfl]
      refine ev_r_astore_n (pc := 11) (k := 2) trivial (by decide +kernel) (by decide +kernel) rfl ?_
      refine ev_r_iconst (pc := 12) (k := 1) (by decide +kernel) ?_
      exact ev_r_ireturn (pc := 13) (x := 1) (v := Int32.ofInt 1) (ty := .int) (by decide) (by decide +kernel) (by decide +kernel) rfl rfl
    · skip
      refine Or.inr ?_
      show (if E7 = "java/lang/IllegalStateException" then _ else none) = none
      rw [if_neg g0]
/-- MendBenchLaw.record(LMendBench;[J)I -/
def jm_390 (Q : Nat) (a0 : Nat) (a1 : Nat) (S : ev_St) : Option ((Int) × ev_St) := ev_if (a0 ≠ 0) (ev_bx (jm_193 Q  S) (fun x3 s2 => ev_b (ev_i2l x3) fun y4 => ev_if (a1 ≠ 0) (ev_if ((0 : Int) ≤ 0 ∧ 0 < (ev_aln ((a1 - 1)) : Int)) (ev_b (ev_pL s2 ((a1 - 1)) (Int.toNat 0) y4) fun s6 => some (0, s6)))) fun E7 s8 => if E7 = "java/lang/IllegalStateException" then some (1, s8) else none)
theorem jt_390 (d : Nat) (hd : 7 ≤ d) (Q : Nat) (a0 : Nat) (a1 : Nat) (ha0 : a0 = 0 ∨ ev_isOb (a0 - 1) 12 = true) (ha1 : a1 = 0 ∨ ev_isAb (a1 - 1) 2 .long = true) (S : ev_St) (x : Int) (S' : ev_St) (hJ : jm_390 Q a0 a1 S = some (x, S')) : ev_Ref d 390 [ev_nv a0, ev_nv a1] S (ev_eI x) S' (ev_rng x) := by
  obtain ⟨d, rfl⟩ : ∃ e, d = e + 1 := ⟨d - 1, by omega⟩
  refine ev_ref_of (P := ev_rng) (lv := [(0, ev_nv a0), (1, ev_nv a1)]) (by decide +kernel) (by (try simp only [ev_sum, ev_nv_cat]); first | done | rfl) (by (try simp only [lv_args, ev_nv_cat]); first | done | rfl) ?_ x S' hJ
  unfold jm_390
  refine ev_r_aload_n (pc := 0) (k := 1) (v := ev_nv a1) (ev_isR_nv _) (by decide +kernel) (by rfl) ?_
  refine ev_r_iconst (pc := 1) (k := 0) (by decide +kernel) ?_
  refine ev_r_aload_n (pc := 2) (k := 0) (v := ev_nv a0) (ev_isR_nv _) (by decide +kernel) (by rfl) ?_
  refine ev_r_chk ?_
  intro c1
  refine ev_r_dr2 (r := a0) (k := 0) (fun v => [v, .int (Int32.ofInt 0), ev_nv a1]) c1 (ev_on_12 (ha0.resolve_left c1)) ?_
  refine ev_r_virtX (pc := 3) (y := 102) (mi := 193) (na := 0) (k := 0) (as := []) (rest := [.int (Int32.ofInt 0), ev_nv a1]) (fun x S1 h => jt_193 d (by omega) Q   S x S1 h) (by exact ev_ob_0) (by decide +kernel) (by decide +kernel) (by decide +kernel) (by decide +kernel) rfl (by (try simp only [ev_sum, ev_nv_cat]); first | done | rfl) ?_ ?_
  · intro x3 s2 hx3
    show ev_w _ _ _ _ _ [.int (Int32.ofInt x3), .int (Int32.ofInt 0), ev_nv a1] _ _ _ _
    refine ev_r_toL (pc := 6) (i := .i2l) (len := 1) (pc' := 7) (by decide +kernel) rfl ?_
    intro y4
    refine ev_r_chk ?_
    intro c5
    refine ev_r_dr (r := a1) (fun v => [.long y4, .int (Int32.ofInt 0), v]) c5 ?_
    refine ev_r_last (pc := 7) (by decide) (by decide +kernel) (by exact (ha1.resolve_left c5)) ?_
    intro s6
    refine ev_r_goto (pc := 8) (o := 6) (t := 14) (by decide +kernel) (by decide +kernel) ?_
    refine ev_r_iconst (pc := 14) (k := 0) (by decide +kernel) ?_
    exact ev_r_ireturn (pc := 15) (x := 0) (v := Int32.ofInt 0) (ty := .int) (by decide) (by decide +kernel) (by decide +kernel) rfl rfl
  · intro E7 s8
    by_cases g0 : E7 = "java/lang/IllegalStateException"
    · subst g0
      refine Or.inl ⟨11, (by decide +kernel), ?_⟩
      show ev_w _ _ _ _ _ _ _ (if "java/lang/IllegalStateException" = "java/lang/IllegalStateException" then some (1, s8) else _) _ _
      rw [if_pos rfl]
      refine ev_r_astore_n (pc := 11) (k := 2) trivial (by decide +kernel) (by decide +kernel) rfl ?_
      refine ev_r_iconst (pc := 12) (k := 1) (by decide +kernel) ?_
      exact ev_r_ireturn (pc := 13) (x := 1) (v := Int32.ofInt 1) (ty := .int) (by decide) (by decide +kernel) (by decide +kernel) rfl rfl
    · skip
      refine Or.inr ?_
      show (if E7 = "java/lang/IllegalStateException" then _ else none) = none
      rw [if_neg g0]
/-- MendBenchLaw.play(LMendBench;II[J)I -/
def jm_391 (Q : Nat) (a0 : Nat) (a1 : Int) (a2 : Int) (a3 : Nat) (S : ev_St) : Option ((Int) × ev_St) := ev_if (a0 ≠ 0) (ev_bx (jm_194 Q a1 a2 S) (fun x3 s2 => ev_b (ev_i2l x3) fun y4 => ev_if (a3 ≠ 0) (ev_if ((0 : Int) ≤ 0 ∧ 0 < (ev_aln ((a3 - 1)) : Int)) (ev_b (ev_pL s2 ((a3 - 1)) (Int.toNat 0) y4) fun s6 => some (0, s6)))) fun E7 s8 => if E7 = "java/lang/IndexOutOfBoundsException" then some (1, s8) else if E7 = "java/lang/IllegalStateException" then some (2, s8) else none)
theorem jt_391 (d : Nat) (hd : 9 ≤ d) (Q : Nat) (a0 : Nat) (a1 : Int) (a2 : Int) (a3 : Nat) (ha0 : a0 = 0 ∨ ev_isOb (a0 - 1) 12 = true) (ha1 : ev_rng a1) (ha2 : ev_rng a2) (ha3 : a3 = 0 ∨ ev_isAb (a3 - 1) 2 .long = true) (S : ev_St) (x : Int) (S' : ev_St) (hJ : jm_391 Q a0 a1 a2 a3 S = some (x, S')) : ev_Ref d 391 [ev_nv a0, .int (Int32.ofInt a1), .int (Int32.ofInt a2), ev_nv a3] S (ev_eI x) S' (ev_rng x) := by
  obtain ⟨d, rfl⟩ : ∃ e, d = e + 1 := ⟨d - 1, by omega⟩
  refine ev_ref_of (P := ev_rng) (lv := [(0, ev_nv a0), (1, .int (Int32.ofInt a1)), (2, .int (Int32.ofInt a2)), (3, ev_nv a3)]) (by decide +kernel) (by (try simp only [ev_sum, ev_nv_cat]); first | done | rfl) (by (try simp only [lv_args, ev_nv_cat]); first | done | rfl) ?_ x S' hJ
  unfold jm_391
  refine ev_r_aload_n (pc := 0) (k := 3) (v := ev_nv a3) (ev_isR_nv _) (by decide +kernel) (by rfl) ?_
  refine ev_r_iconst (pc := 1) (k := 0) (by decide +kernel) ?_
  refine ev_r_aload_n (pc := 2) (k := 0) (v := ev_nv a0) (ev_isR_nv _) (by decide +kernel) (by rfl) ?_
  refine ev_r_iload_n (pc := 3) (k := 1) (v := Int32.ofInt a1) (by decide +kernel) (by rfl) ?_
  refine ev_r_iload_n (pc := 4) (k := 2) (v := Int32.ofInt a2) (by decide +kernel) (by rfl) ?_
  refine ev_r_chk ?_
  intro c1
  refine ev_r_dr2 (r := a0) (k := 0) (fun v => [.int (Int32.ofInt a2), .int (Int32.ofInt a1), v, .int (Int32.ofInt 0), ev_nv a3]) c1 (ev_on_12 (ha0.resolve_left c1)) ?_
  refine ev_r_virtX (pc := 5) (y := 105) (mi := 194) (na := 2) (k := 0) (as := [.int (Int32.ofInt a1), .int (Int32.ofInt a2)]) (rest := [.int (Int32.ofInt 0), ev_nv a3]) (fun x S1 h => jt_194 d (by omega) Q a1 a2 ha1 ha2 S x S1 h) (by exact ev_ob_0) (by decide +kernel) (by decide +kernel) (by decide +kernel) (by decide +kernel) rfl (by (try simp only [ev_sum, ev_nv_cat]); first | done | rfl) ?_ ?_
  · intro x3 s2 hx3
    show ev_w _ _ _ _ _ [.int (Int32.ofInt x3), .int (Int32.ofInt 0), ev_nv a3] _ _ _ _
    refine ev_r_toL (pc := 8) (i := .i2l) (len := 1) (pc' := 9) (by decide +kernel) rfl ?_
    intro y4
    refine ev_r_chk ?_
    intro c5
    refine ev_r_dr (r := a3) (fun v => [.long y4, .int (Int32.ofInt 0), v]) c5 ?_
    refine ev_r_last (pc := 9) (by decide) (by decide +kernel) (by exact (ha3.resolve_left c5)) ?_
    intro s6
    refine ev_r_goto (pc := 10) (o := 11) (t := 21) (by decide +kernel) (by decide +kernel) ?_
    refine ev_r_iconst (pc := 21) (k := 0) (by decide +kernel) ?_
    exact ev_r_ireturn (pc := 22) (x := 0) (v := Int32.ofInt 0) (ty := .int) (by decide) (by decide +kernel) (by decide +kernel) rfl rfl
  · intro E7 s8
    by_cases g0 : E7 = "java/lang/IndexOutOfBoundsException"
    · subst g0
      refine Or.inl ⟨13, (by decide +kernel), ?_⟩
      show ev_w _ _ _ _ _ _ _ (if "java/lang/IndexOutOfBoundsException" = "java/lang/IndexOutOfBoundsException" then some (1, s8) else _) _ _
      rw [if_pos rfl]
      refine ev_r_astore (pc := 13) (k := 4) trivial (by decide +kernel) (by decide +kernel) rfl ?_
      refine ev_r_iconst (pc := 15) (k := 1) (by decide +kernel) ?_
      exact ev_r_ireturn (pc := 16) (x := 1) (v := Int32.ofInt 1) (ty := .int) (by decide) (by decide +kernel) (by decide +kernel) rfl rfl
    · skip
      by_cases g1 : E7 = "java/lang/IllegalStateException"
      · subst g1
        refine Or.inl ⟨17, (by decide +kernel), ?_⟩
        show ev_w _ _ _ _ _ _ _ (if "java/lang/IllegalStateException" = "java/lang/IndexOutOfBoundsException" then _ else if "java/lang/IllegalStateException" = "java/lang/IllegalStateException" then some (2, s8) else _) _ _
        rw [if_neg (by decide), if_pos rfl]
        refine ev_r_astore (pc := 17) (k := 4) trivial (by decide +kernel) (by decide +kernel) rfl ?_
        refine ev_r_iconst (pc := 19) (k := 2) (by decide +kernel) ?_
        exact ev_r_ireturn (pc := 20) (x := 2) (v := Int32.ofInt 2) (ty := .int) (by decide) (by decide +kernel) (by decide +kernel) rfl rfl
      · skip
        refine Or.inr ?_
        show (if E7 = "java/lang/IndexOutOfBoundsException" then _ else if E7 = "java/lang/IllegalStateException" then _ else none) = none
        rw [if_neg g0, if_neg g1]
/-- MendBenchLaw.stream(LMendBench;IZ[J)I -/
def jm_392 (Q : Nat) (a0 : Nat) (a1 : Int) (a2 : Int) (a3 : Nat) (S : ev_St) : Option ((Int) × ev_St) := ev_if (a0 ≠ 0) (ev_bx (jm_195 Q a1 a2 S) (fun x3 s2 => ev_b (ev_i2l x3) fun y4 => ev_if (a3 ≠ 0) (ev_if ((0 : Int) ≤ 0 ∧ 0 < (ev_aln ((a3 - 1)) : Int)) (ev_b (ev_pL s2 ((a3 - 1)) (Int.toNat 0) y4) fun s6 => some (0, s6)))) fun E7 s8 => if E7 = "java/lang/IndexOutOfBoundsException" then some (1, s8) else if E7 = "java/lang/IllegalStateException" then some (2, s8) else none)
theorem jt_392 (d : Nat) (hd : 8 ≤ d) (Q : Nat) (a0 : Nat) (a1 : Int) (a2 : Int) (a3 : Nat) (ha0 : a0 = 0 ∨ ev_isOb (a0 - 1) 12 = true) (ha1 : ev_rng a1) (ha2 : ev_rng a2) (ha3 : a3 = 0 ∨ ev_isAb (a3 - 1) 2 .long = true) (S : ev_St) (x : Int) (S' : ev_St) (hJ : jm_392 Q a0 a1 a2 a3 S = some (x, S')) : ev_Ref d 392 [ev_nv a0, .int (Int32.ofInt a1), .int (Int32.ofInt a2), ev_nv a3] S (ev_eI x) S' (ev_rng x) := by
  obtain ⟨d, rfl⟩ : ∃ e, d = e + 1 := ⟨d - 1, by omega⟩
  refine ev_ref_of (P := ev_rng) (lv := [(0, ev_nv a0), (1, .int (Int32.ofInt a1)), (2, .int (Int32.ofInt a2)), (3, ev_nv a3)]) (by decide +kernel) (by (try simp only [ev_sum, ev_nv_cat]); first | done | rfl) (by (try simp only [lv_args, ev_nv_cat]); first | done | rfl) ?_ x S' hJ
  unfold jm_392
  refine ev_r_aload_n (pc := 0) (k := 3) (v := ev_nv a3) (ev_isR_nv _) (by decide +kernel) (by rfl) ?_
  refine ev_r_iconst (pc := 1) (k := 0) (by decide +kernel) ?_
  refine ev_r_aload_n (pc := 2) (k := 0) (v := ev_nv a0) (ev_isR_nv _) (by decide +kernel) (by rfl) ?_
  refine ev_r_iload_n (pc := 3) (k := 1) (v := Int32.ofInt a1) (by decide +kernel) (by rfl) ?_
  refine ev_r_iload_n (pc := 4) (k := 2) (v := Int32.ofInt a2) (by decide +kernel) (by rfl) ?_
  refine ev_r_chk ?_
  intro c1
  refine ev_r_dr2 (r := a0) (k := 0) (fun v => [.int (Int32.ofInt a2), .int (Int32.ofInt a1), v, .int (Int32.ofInt 0), ev_nv a3]) c1 (ev_on_12 (ha0.resolve_left c1)) ?_
  refine ev_r_virtX (pc := 5) (y := 108) (mi := 195) (na := 2) (k := 0) (as := [.int (Int32.ofInt a1), .int (Int32.ofInt a2)]) (rest := [.int (Int32.ofInt 0), ev_nv a3]) (fun x S1 h => jt_195 d (by omega) Q a1 a2 ha1 ha2 S x S1 h) (by exact ev_ob_0) (by decide +kernel) (by decide +kernel) (by decide +kernel) (by decide +kernel) rfl (by (try simp only [ev_sum, ev_nv_cat]); first | done | rfl) ?_ ?_
  · intro x3 s2 hx3
    show ev_w _ _ _ _ _ [.int (Int32.ofInt x3), .int (Int32.ofInt 0), ev_nv a3] _ _ _ _
    refine ev_r_toL (pc := 8) (i := .i2l) (len := 1) (pc' := 9) (by decide +kernel) rfl ?_
    intro y4
    refine ev_r_chk ?_
    intro c5
    refine ev_r_dr (r := a3) (fun v => [.long y4, .int (Int32.ofInt 0), v]) c5 ?_
    refine ev_r_last (pc := 9) (by decide) (by decide +kernel) (by exact (ha3.resolve_left c5)) ?_
    intro s6
    refine ev_r_goto (pc := 10) (o := 11) (t := 21) (by decide +kernel) (by decide +kernel) ?_
    refine ev_r_iconst (pc := 21) (k := 0) (by decide +kernel) ?_
    exact ev_r_ireturn (pc := 22) (x := 0) (v := Int32.ofInt 0) (ty := .int) (by decide) (by decide +kernel) (by decide +kernel) rfl rfl
  · intro E7 s8
    by_cases g0 : E7 = "java/lang/IndexOutOfBoundsException"
    · subst g0
      refine Or.inl ⟨13, (by decide +kernel), ?_⟩
      show ev_w _ _ _ _ _ _ _ (if "java/lang/IndexOutOfBoundsException" = "java/lang/IndexOutOfBoundsException" then some (1, s8) else _) _ _
      rw [if_pos rfl]
      refine ev_r_astore (pc := 13) (k := 4) trivial (by decide +kernel) (by decide +kernel) rfl ?_
      refine ev_r_iconst (pc := 15) (k := 1) (by decide +kernel) ?_
      exact ev_r_ireturn (pc := 16) (x := 1) (v := Int32.ofInt 1) (ty := .int) (by decide) (by decide +kernel) (by decide +kernel) rfl rfl
    · skip
      by_cases g1 : E7 = "java/lang/IllegalStateException"
      · subst g1
        refine Or.inl ⟨17, (by decide +kernel), ?_⟩
        show ev_w _ _ _ _ _ _ _ (if "java/lang/IllegalStateException" = "java/lang/IndexOutOfBoundsException" then _ else if "java/lang/IllegalStateException" = "java/lang/IllegalStateException" then some (2, s8) else _) _ _
        rw [if_neg (by decide), if_pos rfl]
        refine ev_r_astore (pc := 17) (k := 4) trivial (by decide +kernel) (by decide +kernel) rfl ?_
        refine ev_r_iconst (pc := 19) (k := 2) (by decide +kernel) ?_
        exact ev_r_ireturn (pc := 20) (x := 2) (v := Int32.ofInt 2) (ty := .int) (by decide) (by decide +kernel) (by decide +kernel) rfl rfl
      · skip
        refine Or.inr ?_
        show (if E7 = "java/lang/IndexOutOfBoundsException" then _ else if E7 = "java/lang/IllegalStateException" then _ else none) = none
        rw [if_neg g0, if_neg g1]
/-- MendBenchLaw.feed(LMendBench;I[J)I -/
def jm_393 (Q : Nat) (a0 : Nat) (a1 : Int) (a2 : Nat) (S : ev_St) : Option ((Int) × ev_St) := ev_if (a0 ≠ 0) (ev_bx (jm_196 Q a1 S) (fun x3 s2 => ev_b (ev_i2l x3) fun y4 => ev_if (a2 ≠ 0) (ev_if ((0 : Int) ≤ 0 ∧ 0 < (ev_aln ((a2 - 1)) : Int)) (ev_b (ev_pL s2 ((a2 - 1)) (Int.toNat 0) y4) fun s6 => some (0, s6)))) fun E7 s8 => if E7 = "java/lang/IndexOutOfBoundsException" then some (1, s8) else if E7 = "java/lang/IllegalStateException" then some (2, s8) else none)
theorem jt_393 (d : Nat) (hd : 8 ≤ d) (Q : Nat) (a0 : Nat) (a1 : Int) (a2 : Nat) (ha0 : a0 = 0 ∨ ev_isOb (a0 - 1) 12 = true) (ha1 : ev_rng a1) (ha2 : a2 = 0 ∨ ev_isAb (a2 - 1) 2 .long = true) (S : ev_St) (x : Int) (S' : ev_St) (hJ : jm_393 Q a0 a1 a2 S = some (x, S')) : ev_Ref d 393 [ev_nv a0, .int (Int32.ofInt a1), ev_nv a2] S (ev_eI x) S' (ev_rng x) := by
  obtain ⟨d, rfl⟩ : ∃ e, d = e + 1 := ⟨d - 1, by omega⟩
  refine ev_ref_of (P := ev_rng) (lv := [(0, ev_nv a0), (1, .int (Int32.ofInt a1)), (2, ev_nv a2)]) (by decide +kernel) (by (try simp only [ev_sum, ev_nv_cat]); first | done | rfl) (by (try simp only [lv_args, ev_nv_cat]); first | done | rfl) ?_ x S' hJ
  unfold jm_393
  refine ev_r_aload_n (pc := 0) (k := 2) (v := ev_nv a2) (ev_isR_nv _) (by decide +kernel) (by rfl) ?_
  refine ev_r_iconst (pc := 1) (k := 0) (by decide +kernel) ?_
  refine ev_r_aload_n (pc := 2) (k := 0) (v := ev_nv a0) (ev_isR_nv _) (by decide +kernel) (by rfl) ?_
  refine ev_r_iload_n (pc := 3) (k := 1) (v := Int32.ofInt a1) (by decide +kernel) (by rfl) ?_
  refine ev_r_chk ?_
  intro c1
  refine ev_r_dr2 (r := a0) (k := 0) (fun v => [.int (Int32.ofInt a1), v, .int (Int32.ofInt 0), ev_nv a2]) c1 (ev_on_12 (ha0.resolve_left c1)) ?_
  refine ev_r_virtX (pc := 4) (y := 112) (mi := 196) (na := 1) (k := 0) (as := [.int (Int32.ofInt a1)]) (rest := [.int (Int32.ofInt 0), ev_nv a2]) (fun x S1 h => jt_196 d (by omega) Q a1 ha1 S x S1 h) (by exact ev_ob_0) (by decide +kernel) (by decide +kernel) (by decide +kernel) (by decide +kernel) rfl (by (try simp only [ev_sum, ev_nv_cat]); first | done | rfl) ?_ ?_
  · intro x3 s2 hx3
    show ev_w _ _ _ _ _ [.int (Int32.ofInt x3), .int (Int32.ofInt 0), ev_nv a2] _ _ _ _
    refine ev_r_toL (pc := 7) (i := .i2l) (len := 1) (pc' := 8) (by decide +kernel) rfl ?_
    intro y4
    refine ev_r_chk ?_
    intro c5
    refine ev_r_dr (r := a2) (fun v => [.long y4, .int (Int32.ofInt 0), v]) c5 ?_
    refine ev_r_last (pc := 8) (by decide) (by decide +kernel) (by exact (ha2.resolve_left c5)) ?_
    intro s6
    refine ev_r_goto (pc := 9) (o := 9) (t := 18) (by decide +kernel) (by decide +kernel) ?_
    refine ev_r_iconst (pc := 18) (k := 0) (by decide +kernel) ?_
    exact ev_r_ireturn (pc := 19) (x := 0) (v := Int32.ofInt 0) (ty := .int) (by decide) (by decide +kernel) (by decide +kernel) rfl rfl
  · intro E7 s8
    by_cases g0 : E7 = "java/lang/IndexOutOfBoundsException"
    · subst g0
      refine Or.inl ⟨12, (by decide +kernel), ?_⟩
      show ev_w _ _ _ _ _ _ _ (if "java/lang/IndexOutOfBoundsException" = "java/lang/IndexOutOfBoundsException" then some (1, s8) else _) _ _
      rw [if_pos rfl]
      refine ev_r_astore_n (pc := 12) (k := 3) trivial (by decide +kernel) (by decide +kernel) rfl ?_
      refine ev_r_iconst (pc := 13) (k := 1) (by decide +kernel) ?_
      exact ev_r_ireturn (pc := 14) (x := 1) (v := Int32.ofInt 1) (ty := .int) (by decide) (by decide +kernel) (by decide +kernel) rfl rfl
    · skip
      by_cases g1 : E7 = "java/lang/IllegalStateException"
      · subst g1
        refine Or.inl ⟨15, (by decide +kernel), ?_⟩
        show ev_w _ _ _ _ _ _ _ (if "java/lang/IllegalStateException" = "java/lang/IndexOutOfBoundsException" then _ else if "java/lang/IllegalStateException" = "java/lang/IllegalStateException" then some (2, s8) else _) _ _
        rw [if_neg (by decide), if_pos rfl]
        refine ev_r_astore_n (pc := 15) (k := 3) trivial (by decide +kernel) (by decide +kernel) rfl ?_
        refine ev_r_iconst (pc := 16) (k := 2) (by decide +kernel) ?_
        exact ev_r_ireturn (pc := 17) (x := 2) (v := Int32.ofInt 2) (ty := .int) (by decide) (by decide +kernel) (by decide +kernel) rfl rfl
      · skip
        refine Or.inr ?_
        show (if E7 = "java/lang/IndexOutOfBoundsException" then _ else if E7 = "java/lang/IllegalStateException" then _ else none) = none
        rw [if_neg g0, if_neg g1]
/-- MendBenchLaw.finish(LMendBench;I[J)I -/
def jm_394 (Q : Nat) (a0 : Nat) (a1 : Int) (a2 : Nat) (S : ev_St) : Option ((Int) × ev_St) := ev_if (a0 ≠ 0) (ev_bx (jm_197 Q a1 S) (fun x3 s2 => ev_b (ev_i2l x3) fun y4 => ev_if (a2 ≠ 0) (ev_if ((0 : Int) ≤ 0 ∧ 0 < (ev_aln ((a2 - 1)) : Int)) (ev_b (ev_pL s2 ((a2 - 1)) (Int.toNat 0) y4) fun s6 => some (0, s6)))) fun E7 s8 => if E7 = "java/lang/IndexOutOfBoundsException" then some (1, s8) else if E7 = "java/lang/IllegalStateException" then some (2, s8) else none)
theorem jt_394 (d : Nat) (hd : 7 ≤ d) (Q : Nat) (a0 : Nat) (a1 : Int) (a2 : Nat) (ha0 : a0 = 0 ∨ ev_isOb (a0 - 1) 12 = true) (ha1 : ev_rng a1) (ha2 : a2 = 0 ∨ ev_isAb (a2 - 1) 2 .long = true) (S : ev_St) (x : Int) (S' : ev_St) (hJ : jm_394 Q a0 a1 a2 S = some (x, S')) : ev_Ref d 394 [ev_nv a0, .int (Int32.ofInt a1), ev_nv a2] S (ev_eI x) S' (ev_rng x) := by
  obtain ⟨d, rfl⟩ : ∃ e, d = e + 1 := ⟨d - 1, by omega⟩
  refine ev_ref_of (P := ev_rng) (lv := [(0, ev_nv a0), (1, .int (Int32.ofInt a1)), (2, ev_nv a2)]) (by decide +kernel) (by (try simp only [ev_sum, ev_nv_cat]); first | done | rfl) (by (try simp only [lv_args, ev_nv_cat]); first | done | rfl) ?_ x S' hJ
  unfold jm_394
  refine ev_r_aload_n (pc := 0) (k := 2) (v := ev_nv a2) (ev_isR_nv _) (by decide +kernel) (by rfl) ?_
  refine ev_r_iconst (pc := 1) (k := 0) (by decide +kernel) ?_
  refine ev_r_aload_n (pc := 2) (k := 0) (v := ev_nv a0) (ev_isR_nv _) (by decide +kernel) (by rfl) ?_
  refine ev_r_iload_n (pc := 3) (k := 1) (v := Int32.ofInt a1) (by decide +kernel) (by rfl) ?_
  refine ev_r_chk ?_
  intro c1
  refine ev_r_dr2 (r := a0) (k := 0) (fun v => [.int (Int32.ofInt a1), v, .int (Int32.ofInt 0), ev_nv a2]) c1 (ev_on_12 (ha0.resolve_left c1)) ?_
  refine ev_r_virtX (pc := 4) (y := 115) (mi := 197) (na := 1) (k := 0) (as := [.int (Int32.ofInt a1)]) (rest := [.int (Int32.ofInt 0), ev_nv a2]) (fun x S1 h => jt_197 d (by omega) Q a1 ha1 S x S1 h) (by exact ev_ob_0) (by decide +kernel) (by decide +kernel) (by decide +kernel) (by decide +kernel) rfl (by (try simp only [ev_sum, ev_nv_cat]); first | done | rfl) ?_ ?_
  · intro x3 s2 hx3
    show ev_w _ _ _ _ _ [.int (Int32.ofInt x3), .int (Int32.ofInt 0), ev_nv a2] _ _ _ _
    refine ev_r_toL (pc := 7) (i := .i2l) (len := 1) (pc' := 8) (by decide +kernel) rfl ?_
    intro y4
    refine ev_r_chk ?_
    intro c5
    refine ev_r_dr (r := a2) (fun v => [.long y4, .int (Int32.ofInt 0), v]) c5 ?_
    refine ev_r_last (pc := 8) (by decide) (by decide +kernel) (by exact (ha2.resolve_left c5)) ?_
    intro s6
    refine ev_r_goto (pc := 9) (o := 9) (t := 18) (by decide +kernel) (by decide +kernel) ?_
    refine ev_r_iconst (pc := 18) (k := 0) (by decide +kernel) ?_
    exact ev_r_ireturn (pc := 19) (x := 0) (v := Int32.ofInt 0) (ty := .int) (by decide) (by decide +kernel) (by decide +kernel) rfl rfl
  · intro E7 s8
    by_cases g0 : E7 = "java/lang/IndexOutOfBoundsException"
    · subst g0
      refine Or.inl ⟨12, (by decide +kernel), ?_⟩
      show ev_w _ _ _ _ _ _ _ (if "java/lang/IndexOutOfBoundsException" = "java/lang/IndexOutOfBoundsException" then some (1, s8) else _) _ _
      rw [if_pos rfl]
      refine ev_r_astore_n (pc := 12) (k := 3) trivial (by decide +kernel) (by decide +kernel) rfl ?_
      refine ev_r_iconst (pc := 13) (k := 1) (by decide +kernel) ?_
      exact ev_r_ireturn (pc := 14) (x := 1) (v := Int32.ofInt 1) (ty := .int) (by decide) (by decide +kernel) (by decide +kernel) rfl rfl
    · skip
      by_cases g1 : E7 = "java/lang/IllegalStateException"
      · subst g1
        refine Or.inl ⟨15, (by decide +kernel), ?_⟩
        show ev_w _ _ _ _ _ _ _ (if "java/lang/IllegalStateException" = "java/lang/IndexOutOfBoundsException" then _ else if "java/lang/IllegalStateException" = "java/lang/IllegalStateException" then some (2, s8) else _) _ _
        rw [if_neg (by decide), if_pos rfl]
        refine ev_r_astore_n (pc := 15) (k := 3) trivial (by decide +kernel) (by decide +kernel) rfl ?_
        refine ev_r_iconst (pc := 16) (k := 2) (by decide +kernel) ?_
        exact ev_r_ireturn (pc := 17) (x := 2) (v := Int32.ofInt 2) (ty := .int) (by decide) (by decide +kernel) (by decide +kernel) rfl rfl
      · skip
        refine Or.inr ?_
        show (if E7 = "java/lang/IndexOutOfBoundsException" then _ else if E7 = "java/lang/IllegalStateException" then _ else none) = none
        rw [if_neg g0, if_neg g1]
/-- MendBenchLaw.told(LMendBench;I[J)I -/
def jm_395 (Q : Nat) (a0 : Nat) (a1 : Int) (a2 : Nat) (S : ev_St) : Option ((Int) × ev_St) := ev_if (a0 ≠ 0) (ev_bx (jm_198 Q a1 S) (fun x3 s2 => ev_b (ev_i2l x3) fun y4 => ev_if (a2 ≠ 0) (ev_if ((0 : Int) ≤ 0 ∧ 0 < (ev_aln ((a2 - 1)) : Int)) (ev_b (ev_pL s2 ((a2 - 1)) (Int.toNat 0) y4) fun s6 => some (0, s6)))) fun E7 s8 => if E7 = "java/lang/IndexOutOfBoundsException" then some (1, s8) else none)
theorem jt_395 (d : Nat) (hd : 7 ≤ d) (Q : Nat) (a0 : Nat) (a1 : Int) (a2 : Nat) (ha0 : a0 = 0 ∨ ev_isOb (a0 - 1) 12 = true) (ha1 : ev_rng a1) (ha2 : a2 = 0 ∨ ev_isAb (a2 - 1) 2 .long = true) (S : ev_St) (x : Int) (S' : ev_St) (hJ : jm_395 Q a0 a1 a2 S = some (x, S')) : ev_Ref d 395 [ev_nv a0, .int (Int32.ofInt a1), ev_nv a2] S (ev_eI x) S' (ev_rng x) := by
  obtain ⟨d, rfl⟩ : ∃ e, d = e + 1 := ⟨d - 1, by omega⟩
  refine ev_ref_of (P := ev_rng) (lv := [(0, ev_nv a0), (1, .int (Int32.ofInt a1)), (2, ev_nv a2)]) (by decide +kernel) (by (try simp only [ev_sum, ev_nv_cat]); first | done | rfl) (by (try simp only [lv_args, ev_nv_cat]); first | done | rfl) ?_ x S' hJ
  unfold jm_395
  refine ev_r_aload_n (pc := 0) (k := 2) (v := ev_nv a2) (ev_isR_nv _) (by decide +kernel) (by rfl) ?_
  refine ev_r_iconst (pc := 1) (k := 0) (by decide +kernel) ?_
  refine ev_r_aload_n (pc := 2) (k := 0) (v := ev_nv a0) (ev_isR_nv _) (by decide +kernel) (by rfl) ?_
  refine ev_r_iload_n (pc := 3) (k := 1) (v := Int32.ofInt a1) (by decide +kernel) (by rfl) ?_
  refine ev_r_chk ?_
  intro c1
  refine ev_r_dr2 (r := a0) (k := 0) (fun v => [.int (Int32.ofInt a1), v, .int (Int32.ofInt 0), ev_nv a2]) c1 (ev_on_12 (ha0.resolve_left c1)) ?_
  refine ev_r_virtX (pc := 4) (y := 118) (mi := 198) (na := 1) (k := 0) (as := [.int (Int32.ofInt a1)]) (rest := [.int (Int32.ofInt 0), ev_nv a2]) (fun x S1 h => jt_198 d (by omega) Q a1 ha1 S x S1 h) (by exact ev_ob_0) (by decide +kernel) (by decide +kernel) (by decide +kernel) (by decide +kernel) rfl (by (try simp only [ev_sum, ev_nv_cat]); first | done | rfl) ?_ ?_
  · intro x3 s2 hx3
    show ev_w _ _ _ _ _ [.int (Int32.ofInt x3), .int (Int32.ofInt 0), ev_nv a2] _ _ _ _
    refine ev_r_toL (pc := 7) (i := .i2l) (len := 1) (pc' := 8) (by decide +kernel) rfl ?_
    intro y4
    refine ev_r_chk ?_
    intro c5
    refine ev_r_dr (r := a2) (fun v => [.long y4, .int (Int32.ofInt 0), v]) c5 ?_
    refine ev_r_last (pc := 8) (by decide) (by decide +kernel) (by exact (ha2.resolve_left c5)) ?_
    intro s6
    refine ev_r_goto (pc := 9) (o := 6) (t := 15) (by decide +kernel) (by decide +kernel) ?_
    refine ev_r_iconst (pc := 15) (k := 0) (by decide +kernel) ?_
    exact ev_r_ireturn (pc := 16) (x := 0) (v := Int32.ofInt 0) (ty := .int) (by decide) (by decide +kernel) (by decide +kernel) rfl rfl
  · intro E7 s8
    by_cases g0 : E7 = "java/lang/IndexOutOfBoundsException"
    · subst g0
      refine Or.inl ⟨12, (by decide +kernel), ?_⟩
      show ev_w _ _ _ _ _ _ _ (if "java/lang/IndexOutOfBoundsException" = "java/lang/IndexOutOfBoundsException" then some (1, s8) else _) _ _
      rw [if_pos rfl]
      refine ev_r_astore_n (pc := 12) (k := 3) trivial (by decide +kernel) (by decide +kernel) rfl ?_
      refine ev_r_iconst (pc := 13) (k := 1) (by decide +kernel) ?_
      exact ev_r_ireturn (pc := 14) (x := 1) (v := Int32.ofInt 1) (ty := .int) (by decide) (by decide +kernel) (by decide +kernel) rfl rfl
    · skip
      refine Or.inr ?_
      show (if E7 = "java/lang/IndexOutOfBoundsException" then _ else none) = none
      rw [if_neg g0]
