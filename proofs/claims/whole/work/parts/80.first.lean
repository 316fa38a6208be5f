/-! METHODS as functions, laid by decomp.py -/
theorem ev_fo_10_0 {k : Nat} (h : ev_isOb k 10 = true) : ev_isAb (k + 1) 1 .int = true := ev_foA (by decide +kernel) h
theorem ev_fo_5_0 {k : Nat} (h : ev_isOb k 5 = true) : ev_isAb (k + 1) 1 .int = true := ev_foA (by decide +kernel) h
theorem ev_fo_5_1 {k : Nat} (h : ev_isOb k 5 = true) : ev_isAb (k + 2) 1 .int = true := ev_foA (by decide +kernel) h
theorem ev_fo_5_2 {k : Nat} (h : ev_isOb k 5 = true) : ev_isAb (k + 3) 1 .int = true := ev_foA (by decide +kernel) h
theorem ev_fo_5_3 {k : Nat} (h : ev_isOb k 5 = true) : ev_isAb (k + 4) 1 .int = true := ev_foA (by decide +kernel) h
theorem ev_fo_5_4 {k : Nat} (h : ev_isOb k 5 = true) : ev_isAb (k + 5) 1 .int = true := ev_foA (by decide +kernel) h
theorem ev_fo_5_5 {k : Nat} (h : ev_isOb k 5 = true) : ev_isAb (k + 6) 1 .int = true := ev_foA (by decide +kernel) h
theorem ev_fo_5_6 {k : Nat} (h : ev_isOb k 5 = true) : ev_isAb (k + 7) 1 .int = true := ev_foA (by decide +kernel) h
/-- MendBenchModel.in(III)Z -/
def jm_222 (Q : Nat) (a0 : Int) (a1 : Int) (a2 : Int) (S : ev_St) : Option ((Int) × ev_St) := if a0 < a1 then (some (0, S)) else (if a2 < a0 then (some (0, S)) else (some (1, S)))
theorem jt_222 (d : Nat) (hd : 1 ≤ d) (Q : Nat) (a0 : Int) (a1 : Int) (a2 : Int) (ha0 : ev_rng a0) (ha1 : ev_rng a1) (ha2 : ev_rng a2) (S : ev_St) (x : Int) (S' : ev_St) (hJ : jm_222 Q a0 a1 a2 S = some (x, S')) : ev_Ref d 222 [.int (Int32.ofInt a0), .int (Int32.ofInt a1), .int (Int32.ofInt a2)] S (ev_eI x) S' (ev_bl x) := by
  obtain ⟨d, rfl⟩ : ∃ e, d = e + 1 := ⟨d - 1, by omega⟩
  refine ev_ref_of (P := ev_bl) (lv := [(0, .int (Int32.ofInt a0)), (1, .int (Int32.ofInt a1)), (2, .int (Int32.ofInt a2))]) (by decide +kernel) rfl rfl ?_ x S' hJ
  unfold jm_222
  refine ev_r_iload_n (pc := 0) (k := 0) (v := Int32.ofInt a0) (by decide +kernel) (by rfl) ?_
  refine ev_r_iload_n (pc := 1) (k := 1) (v := Int32.ofInt a1) (by decide +kernel) (by rfl) ?_
  refine ev_r_icmp (pc := 2) (q := .lt) (o := 12) (t := 14) (c := a0 < a1) (by decide +kernel) (ev_k_lt ha0 ha1) (by decide +kernel) ?_ ?_
  · intro c1
    refine ev_r_iconst (pc := 14) (k := 0) (by decide +kernel) ?_
    exact ev_r_ireturn (pc := 15) (x := 0) (v := Int32.ofInt 0) (ty := .boolean) (by decide : ev_bl 0) (by decide +kernel) (by decide +kernel) (ev_ret_bl (by decide : ev_bl 0)) rfl
  · intro c1
    refine ev_r_iload_n (pc := 5) (k := 0) (v := Int32.ofInt a0) (by decide +kernel) (by rfl) ?_
    refine ev_r_iload_n (pc := 6) (k := 2) (v := Int32.ofInt a2) (by decide +kernel) (by rfl) ?_
    refine ev_r_icmp (pc := 7) (q := .gt) (o := 7) (t := 14) (c := a2 < a0) (by decide +kernel) (ev_k_gt ha0 ha2) (by decide +kernel) ?_ ?_
    · intro c2
      refine ev_r_iconst (pc := 14) (k := 0) (by decide +kernel) ?_
      exact ev_r_ireturn (pc := 15) (x := 0) (v := Int32.ofInt 0) (ty := .boolean) (by decide : ev_bl 0) (by decide +kernel) (by decide +kernel) (ev_ret_bl (by decide : ev_bl 0)) rfl
    · intro c2
      refine ev_r_iconst (pc := 10) (k := 1) (by decide +kernel) ?_
      refine ev_r_goto (pc := 11) (o := 4) (t := 15) (by decide +kernel) (by decide +kernel) ?_
      exact ev_r_ireturn (pc := 15) (x := 1) (v := Int32.ofInt 1) (ty := .boolean) (by decide : ev_bl 1) (by decide +kernel) (by decide +kernel) (ev_ret_bl (by decide : ev_bl 1)) rfl
/-- MendBenchModel.isSign(I)Z -/
def jm_223 (Q : Nat) (a0 : Int) (S : ev_St) : Option ((Int) × ev_St) := if a0 = 10 then (some (1, S)) else (ev_bd (jm_222 Q a0 32 126 S) fun x3 s2 => if x3 = 0 then (some (0, s2)) else (some (1, s2)))
theorem jt_223 (d : Nat) (hd : 2 ≤ d) (Q : Nat) (a0 : Int) (ha0 : ev_rng a0) (S : ev_St) (x : Int) (S' : ev_St) (hJ : jm_223 Q a0 S = some (x, S')) : ev_Ref d 223 [.int (Int32.ofInt a0)] S (ev_eI x) S' (ev_bl x) := by
  obtain ⟨d, rfl⟩ : ∃ e, d = e + 1 := ⟨d - 1, by omega⟩
  refine ev_ref_of (P := ev_bl) (lv := [(0, .int (Int32.ofInt a0))]) (by decide +kernel) rfl rfl ?_ x S' hJ
  unfold jm_223
  refine ev_r_iload_n (pc := 0) (k := 0) (v := Int32.ofInt a0) (by decide +kernel) (by rfl) ?_
  refine ev_r_bipush (pc := 1) (k := 10) (by decide +kernel) (by decide +kernel) ?_
  refine ev_r_icmp (pc := 3) (q := .eq) (o := 14) (t := 17) (c := a0 = 10) (by decide +kernel) (ev_k_eq ha0 (by decide)) (by decide +kernel) ?_ ?_
  · intro c1
    refine ev_r_iconst (pc := 17) (k := 1) (by decide +kernel) ?_
    refine ev_r_goto (pc := 18) (o := 4) (t := 22) (by decide +kernel) (by decide +kernel) ?_
    exact ev_r_ireturn (pc := 22) (x := 1) (v := Int32.ofInt 1) (ty := .boolean) (by decide : ev_bl 1) (by decide +kernel) (by decide +kernel) (ev_ret_bl (by decide : ev_bl 1)) rfl
  · intro c1
    refine ev_r_iload_n (pc := 6) (k := 0) (v := Int32.ofInt a0) (by decide +kernel) (by rfl) ?_
    refine ev_r_bipush (pc := 7) (k := 32) (by decide +kernel) (by decide +kernel) ?_
    refine ev_r_bipush (pc := 9) (k := 126) (by decide +kernel) (by decide +kernel) ?_
    refine ev_r_stat (pc := 11) (y := 325) (kind := 2) (mi := 222) (na := 3) (as := [.int (Int32.ofInt a0), .int (Int32.ofInt 32), .int (Int32.ofInt 126)]) (rest := []) (encc := ev_oI) (Q := ev_bl) (fun x S1 h => jt_222 d (by omega) Q a0 32 126 ha0 (by decide) (by decide) S x S1 h) (Or.inl rfl) (by decide +kernel) (by decide +kernel) (by decide +kernel) (by decide +kernel) rfl rfl ?_
    intro x3 s2 hx3
    replace hx3 := ev_bl_rng hx3
    show ev_w _ _ _ _ _ [.int (Int32.ofInt x3)] _ _ _ _
    refine ev_r_if (pc := 14) (q := .eq) (o := 7) (t := 21) (c := x3 = 0) (by decide +kernel) (ev_k_eq hx3 ev_rng0) (by decide +kernel) ?_ ?_
    · intro c4
      refine ev_r_iconst (pc := 21) (k := 0) (by decide +kernel) ?_
      exact ev_r_ireturn (pc := 22) (x := 0) (v := Int32.ofInt 0) (ty := .boolean) (by decide : ev_bl 0) (by decide +kernel) (by decide +kernel) (ev_ret_bl (by decide : ev_bl 0)) rfl
    · intro c4
      refine ev_r_iconst (pc := 17) (k := 1) (by decide +kernel) ?_
      refine ev_r_goto (pc := 18) (o := 4) (t := 22) (by decide +kernel) (by decide +kernel) ?_
      exact ev_r_ireturn (pc := 22) (x := 1) (v := Int32.ofInt 1) (ty := .boolean) (by decide : ev_bl 1) (by decide +kernel) (by decide +kernel) (ev_ret_bl (by decide : ev_bl 1)) rfl
/-- MendBenchModel.isLower(I)Z -/
def jm_224 (Q : Nat) (a0 : Int) (S : ev_St) : Option ((Int) × ev_St) := ev_bd (jm_222 Q a0 97 122 S) fun x2 s1 => ev_if (ev_bl x2) (some (x2, s1))
theorem jt_224 (d : Nat) (hd : 2 ≤ d) (Q : Nat) (a0 : Int) (ha0 : ev_rng a0) (S : ev_St) (x : Int) (S' : ev_St) (hJ : jm_224 Q a0 S = some (x, S')) : ev_Ref d 224 [.int (Int32.ofInt a0)] S (ev_eI x) S' (ev_bl x) := by
  obtain ⟨d, rfl⟩ : ∃ e, d = e + 1 := ⟨d - 1, by omega⟩
  refine ev_ref_of (P := ev_bl) (lv := [(0, .int (Int32.ofInt a0))]) (by decide +kernel) rfl rfl ?_ x S' hJ
  unfold jm_224
  refine ev_r_iload_n (pc := 0) (k := 0) (v := Int32.ofInt a0) (by decide +kernel) (by rfl) ?_
  refine ev_r_bipush (pc := 1) (k := 97) (by decide +kernel) (by decide +kernel) ?_
  refine ev_r_bipush (pc := 3) (k := 122) (by decide +kernel) (by decide +kernel) ?_
  refine ev_r_stat (pc := 5) (y := 325) (kind := 2) (mi := 222) (na := 3) (as := [.int (Int32.ofInt a0), .int (Int32.ofInt 97), .int (Int32.ofInt 122)]) (rest := []) (encc := ev_oI) (Q := ev_bl) (fun x S1 h => jt_222 d (by omega) Q a0 97 122 ha0 (by decide) (by decide) S x S1 h) (Or.inl rfl) (by decide +kernel) (by decide +kernel) (by decide +kernel) (by decide +kernel) rfl rfl ?_
  intro x2 s1 hx2
  replace hx2 := ev_bl_rng hx2
  show ev_w _ _ _ _ _ [.int (Int32.ofInt x2)] _ _ _ _
  refine ev_r_chk ?_
  intro c3
  exact ev_r_ireturn (pc := 8) (x := x2) (v := Int32.ofInt x2) (ty := .boolean) c3 (by decide +kernel) (by decide +kernel) (ev_ret_bl c3) rfl
/-- MendBench.isSign(I)Z -/
def jm_207 (Q : Nat) (a0 : Int) (S : ev_St) : Option ((Int) × ev_St) := if a0 = 10 then (some (1, S)) else (if a0 < 32 then (some (0, S)) else (if 126 < a0 then (some (0, S)) else (some (1, S))))
theorem jt_207 (d : Nat) (hd : 1 ≤ d) (Q : Nat) (a0 : Int) (ha0 : ev_rng a0) (S : ev_St) (x : Int) (S' : ev_St) (hJ : jm_207 Q a0 S = some (x, S')) : ev_Ref d 207 [.int (Int32.ofInt a0)] S (ev_eI x) S' (ev_bl x) := by
  obtain ⟨d, rfl⟩ : ∃ e, d = e + 1 := ⟨d - 1, by omega⟩
  refine ev_ref_of (P := ev_bl) (lv := [(0, .int (Int32.ofInt a0))]) (by decide +kernel) rfl rfl ?_ x S' hJ
  unfold jm_207
  refine ev_r_iload_n (pc := 0) (k := 0) (v := Int32.ofInt a0) (by decide +kernel) (by rfl) ?_
  refine ev_r_bipush (pc := 1) (k := 10) (by decide +kernel) (by decide +kernel) ?_
  refine ev_r_icmp (pc := 3) (q := .eq) (o := 15) (t := 18) (c := a0 = 10) (by decide +kernel) (ev_k_eq ha0 (by decide)) (by decide +kernel) ?_ ?_
  · intro c1
    refine ev_r_iconst (pc := 18) (k := 1) (by decide +kernel) ?_
    refine ev_r_goto (pc := 19) (o := 4) (t := 23) (by decide +kernel) (by decide +kernel) ?_
    exact ev_r_ireturn (pc := 23) (x := 1) (v := Int32.ofInt 1) (ty := .boolean) (by decide : ev_bl 1) (by decide +kernel) (by decide +kernel) (ev_ret_bl (by decide : ev_bl 1)) rfl
  · intro c1
    refine ev_r_iload_n (pc := 6) (k := 0) (v := Int32.ofInt a0) (by decide +kernel) (by rfl) ?_
    refine ev_r_bipush (pc := 7) (k := 32) (by decide +kernel) (by decide +kernel) ?_
    refine ev_r_icmp (pc := 9) (q := .lt) (o := 13) (t := 22) (c := a0 < 32) (by decide +kernel) (ev_k_lt ha0 (by decide)) (by decide +kernel) ?_ ?_
    · intro c2
      refine ev_r_iconst (pc := 22) (k := 0) (by decide +kernel) ?_
      exact ev_r_ireturn (pc := 23) (x := 0) (v := Int32.ofInt 0) (ty := .boolean) (by decide : ev_bl 0) (by decide +kernel) (by decide +kernel) (ev_ret_bl (by decide : ev_bl 0)) rfl
    · intro c2
      refine ev_r_iload_n (pc := 12) (k := 0) (v := Int32.ofInt a0) (by decide +kernel) (by rfl) ?_
      refine ev_r_bipush (pc := 13) (k := 126) (by decide +kernel) (by decide +kernel) ?_
      refine ev_r_icmp (pc := 15) (q := .gt) (o := 7) (t := 22) (c := 126 < a0) (by decide +kernel) (ev_k_gt ha0 (by decide)) (by decide +kernel) ?_ ?_
      · intro c3
        refine ev_r_iconst (pc := 22) (k := 0) (by decide +kernel) ?_
        exact ev_r_ireturn (pc := 23) (x := 0) (v := Int32.ofInt 0) (ty := .boolean) (by decide : ev_bl 0) (by decide +kernel) (by decide +kernel) (ev_ret_bl (by decide : ev_bl 0)) rfl
      · intro c3
        refine ev_r_iconst (pc := 18) (k := 1) (by decide +kernel) ?_
        refine ev_r_goto (pc := 19) (o := 4) (t := 23) (by decide +kernel) (by decide +kernel) ?_
        exact ev_r_ireturn (pc := 23) (x := 1) (v := Int32.ofInt 1) (ty := .boolean) (by decide : ev_bl 1) (by decide +kernel) (by decide +kernel) (ev_ret_bl (by decide : ev_bl 1)) rfl
/-- MendBench.isLower(I)Z -/
def jm_209 (Q : Nat) (a0 : Int) (S : ev_St) : Option ((Int) × ev_St) := if a0 < 97 then (some (0, S)) else (if 122 < a0 then (some (0, S)) else (some (1, S)))
theorem jt_209 (d : Nat) (hd : 1 ≤ d) (Q : Nat) (a0 : Int) (ha0 : ev_rng a0) (S : ev_St) (x : Int) (S' : ev_St) (hJ : jm_209 Q a0 S = some (x, S')) : ev_Ref d 209 [.int (Int32.ofInt a0)] S (ev_eI x) S' (ev_bl x) := by
  obtain ⟨d, rfl⟩ : ∃ e, d = e + 1 := ⟨d - 1, by omega⟩
  refine ev_ref_of (P := ev_bl) (lv := [(0, .int (Int32.ofInt a0))]) (by decide +kernel) rfl rfl ?_ x S' hJ
  unfold jm_209
  refine ev_r_iload_n (pc := 0) (k := 0) (v := Int32.ofInt a0) (by decide +kernel) (by rfl) ?_
  refine ev_r_bipush (pc := 1) (k := 97) (by decide +kernel) (by decide +kernel) ?_
  refine ev_r_icmp (pc := 3) (q := .lt) (o := 13) (t := 16) (c := a0 < 97) (by decide +kernel) (ev_k_lt ha0 (by decide)) (by decide +kernel) ?_ ?_
  · intro c1
    refine ev_r_iconst (pc := 16) (k := 0) (by decide +kernel) ?_
    exact ev_r_ireturn (pc := 17) (x := 0) (v := Int32.ofInt 0) (ty := .boolean) (by decide : ev_bl 0) (by decide +kernel) (by decide +kernel) (ev_ret_bl (by decide : ev_bl 0)) rfl
  · intro c1
    refine ev_r_iload_n (pc := 6) (k := 0) (v := Int32.ofInt a0) (by decide +kernel) (by rfl) ?_
    refine ev_r_bipush (pc := 7) (k := 122) (by decide +kernel) (by decide +kernel) ?_
    refine ev_r_icmp (pc := 9) (q := .gt) (o := 7) (t := 16) (c := 122 < a0) (by decide +kernel) (ev_k_gt ha0 (by decide)) (by decide +kernel) ?_ ?_
    · intro c2
      refine ev_r_iconst (pc := 16) (k := 0) (by decide +kernel) ?_
      exact ev_r_ireturn (pc := 17) (x := 0) (v := Int32.ofInt 0) (ty := .boolean) (by decide : ev_bl 0) (by decide +kernel) (by decide +kernel) (ev_ret_bl (by decide : ev_bl 0)) rfl
    · intro c2
      refine ev_r_iconst (pc := 12) (k := 1) (by decide +kernel) ?_
      refine ev_r_goto (pc := 13) (o := 4) (t := 17) (by decide +kernel) (by decide +kernel) ?_
      exact ev_r_ireturn (pc := 17) (x := 1) (v := Int32.ofInt 1) (ty := .boolean) (by decide : ev_bl 1) (by decide +kernel) (by decide +kernel) (ev_ret_bl (by decide : ev_bl 1)) rfl
/-- MendBench$Text.at(I)I -/
def jm_151 (Q : Nat) (k : Nat) (a0 : Int) (S : ev_St) : Option ((Int) × ev_St) := if a0 < 0 then (some ((-1), S)) else (ev_b (S.1 k 1) fun x2 => if x2 ≤ a0 then (some ((-1), S)) else (if 160 ≤ a0 then (some ((-1), S)) else (ev_if (0 ≤ a0 ∧ a0 < (ev_aln ((k + 1)) : Int)) (ev_b (S.1 ((k + 1)) (Int.toNat a0)) fun x5 => some (x5, S)))))
theorem jt_151 (d : Nat) (hd : 1 ≤ d) (Q : Nat) (k : Nat) (a0 : Int) (hk : ev_isOb k 10 = true) (ha0 : ev_rng a0) (S : ev_St) (x : Int) (S' : ev_St) (hJ : jm_151 Q k a0 S = some (x, S')) : ev_Ref d 151 [.ref k, .int (Int32.ofInt a0)] S (ev_eI x) S' (ev_rng x) := by
  obtain ⟨d, rfl⟩ : ∃ e, d = e + 1 := ⟨d - 1, by omega⟩
  refine ev_ref_of (P := ev_rng) (lv := [(0, .ref k), (1, .int (Int32.ofInt a0))]) (by decide +kernel) rfl rfl ?_ x S' hJ
  unfold jm_151
  refine ev_r_iload_n (pc := 0) (k := 1) (v := Int32.ofInt a0) (by decide +kernel) (by rfl) ?_
  refine ev_r_if (pc := 1) (q := .lt) (o := 27) (t := 28) (c := a0 < 0) (by decide +kernel) (ev_k_lt ha0 ev_rng0) (by decide +kernel) ?_ ?_
  · intro c1
    refine ev_r_iconst (pc := 28) (k := -1) (by decide +kernel) ?_
    exact ev_r_ireturn (pc := 29) (x := (-1)) (v := Int32.ofInt ((-1))) (ty := .int) (by decide) (by decide +kernel) (by decide +kernel) rfl rfl
  · intro c1
    refine ev_r_iload_n (pc := 4) (k := 1) (v := Int32.ofInt a0) (by decide +kernel) (by rfl) ?_
    refine ev_r_aload_n (pc := 5) (k := 0) (v := .ref k) trivial (by decide +kernel) (by rfl) ?_
    refine ev_r_getI (pc := 6) (y := 15) (ci := 10) (f := 1) (fin := 0) (by decide +kernel) (by decide +kernel) (by exact hk) rfl ?_
    intro x2 hx2
    refine ev_r_icmp (pc := 9) (q := .ge) (o := 19) (t := 28) (c := x2 ≤ a0) (by decide +kernel) (ev_k_ge ha0 hx2) (by decide +kernel) ?_ ?_
    · intro c3
      refine ev_r_iconst (pc := 28) (k := -1) (by decide +kernel) ?_
      exact ev_r_ireturn (pc := 29) (x := (-1)) (v := Int32.ofInt ((-1))) (ty := .int) (by decide) (by decide +kernel) (by decide +kernel) rfl rfl
    · intro c3
      refine ev_r_iload_n (pc := 12) (k := 1) (v := Int32.ofInt a0) (by decide +kernel) (by rfl) ?_
      refine ev_r_sipush (pc := 13) (k := 160) (by decide +kernel) (by decide +kernel) ?_
      refine ev_r_icmp (pc := 16) (q := .ge) (o := 12) (t := 28) (c := 160 ≤ a0) (by decide +kernel) (ev_k_ge ha0 (by decide)) (by decide +kernel) ?_ ?_
      · intro c4
        refine ev_r_iconst (pc := 28) (k := -1) (by decide +kernel) ?_
        exact ev_r_ireturn (pc := 29) (x := (-1)) (v := Int32.ofInt ((-1))) (ty := .int) (by decide) (by decide +kernel) (by decide +kernel) rfl rfl
      · intro c4
        refine ev_r_aload_n (pc := 19) (k := 0) (v := .ref k) trivial (by decide +kernel) (by rfl) ?_
        refine ev_r_getC (pc := 20) (y := 11) (ci := 10) (f := 0) (fin := 1) (k' := (k + 1)) (by decide +kernel) (by decide +kernel) (by exact hk) rfl rfl ?_
        refine ev_r_iload_n (pc := 23) (k := 1) (v := Int32.ofInt a0) (by decide +kernel) (by rfl) ?_
        refine ev_r_iald (pc := 24) ha0 (by decide +kernel) (by exact (ev_fo_10_0 hk)) ?_
        intro x5 hx5
        refine ev_r_goto (pc := 25) (o := 4) (t := 29) (by decide +kernel) (by decide +kernel) ?_
        exact ev_r_ireturn (pc := 29) (x := x5) (v := Int32.ofInt x5) (ty := .int) hx5 (by decide +kernel) (by decide +kernel) rfl rfl
/-- MendBench$Text.add(I)V -/
def jm_152 (Q : Nat) (k : Nat) (a0 : Int) (S : ev_St) : Option ((Unit) × ev_St) := ev_b (S.1 k 1) fun x1 => if x1 < 0 then (some ((), S)) else (ev_b (S.1 k 1) fun x3 => if 160 ≤ x3 then (some ((), S)) else (ev_b (S.1 k 1) fun x5 => ev_if (0 ≤ x5 ∧ x5 < (ev_aln ((k + 1)) : Int)) (ev_b (ev_pI S ((k + 1)) (Int.toNat x5) a0) fun s6 => ev_b (s6.1 k 1) fun x7 => ev_ck (x7 + 1) fun x8 => ev_b (ev_pI s6 k 1 x8) fun s9 => some ((), s9))))
theorem jt_152 (d : Nat) (hd : 1 ≤ d) (Q : Nat) (k : Nat) (a0 : Int) (hk : ev_isOb k 10 = true) (ha0 : ev_rng a0) (S : ev_St) (x : Unit) (S' : ev_St) (hJ : jm_152 Q k a0 S = some (x, S')) : ev_Ref d 152 [.ref k, .int (Int32.ofInt a0)] S (ev_eU x) S' (ev_PU x) := by
  obtain ⟨d, rfl⟩ : ∃ e, d = e + 1 := ⟨d - 1, by omega⟩
  refine ev_ref_of (P := ev_PU) (lv := [(0, .ref k), (1, .int (Int32.ofInt a0))]) (by decide +kernel) rfl rfl ?_ x S' hJ
  unfold jm_152
  refine ev_r_aload_n (pc := 0) (k := 0) (v := .ref k) trivial (by decide +kernel) (by rfl) ?_
  refine ev_r_getI (pc := 1) (y := 15) (ci := 10) (f := 1) (fin := 0) (by decide +kernel) (by decide +kernel) (by exact hk) rfl ?_
  intro x1 hx1
  refine ev_r_if (pc := 4) (q := .lt) (o := 33) (t := 37) (c := x1 < 0) (by decide +kernel) (ev_k_lt hx1 ev_rng0) (by decide +kernel) ?_ ?_
  · intro c2
    exact ev_r_return (pc := 37) (x := ()) trivial (by decide +kernel) (by decide +kernel) rfl
  · intro c2
    refine ev_r_aload_n (pc := 7) (k := 0) (v := .ref k) trivial (by decide +kernel) (by rfl) ?_
    refine ev_r_getI (pc := 8) (y := 15) (ci := 10) (f := 1) (fin := 0) (by decide +kernel) (by decide +kernel) (by exact hk) rfl ?_
    intro x3 hx3
    refine ev_r_sipush (pc := 11) (k := 160) (by decide +kernel) (by decide +kernel) ?_
    refine ev_r_icmp (pc := 14) (q := .ge) (o := 23) (t := 37) (c := 160 ≤ x3) (by decide +kernel) (ev_k_ge hx3 (by decide)) (by decide +kernel) ?_ ?_
    · intro c4
      exact ev_r_return (pc := 37) (x := ()) trivial (by decide +kernel) (by decide +kernel) rfl
    · intro c4
      refine ev_r_aload_n (pc := 17) (k := 0) (v := .ref k) trivial (by decide +kernel) (by rfl) ?_
      refine ev_r_getC (pc := 18) (y := 11) (ci := 10) (f := 0) (fin := 1) (k' := (k + 1)) (by decide +kernel) (by decide +kernel) (by exact hk) rfl rfl ?_
      refine ev_r_aload_n (pc := 21) (k := 0) (v := .ref k) trivial (by decide +kernel) (by rfl) ?_
      refine ev_r_getI (pc := 22) (y := 15) (ci := 10) (f := 1) (fin := 0) (by decide +kernel) (by decide +kernel) (by exact hk) rfl ?_
      intro x5 hx5
      refine ev_r_iload_n (pc := 25) (k := 1) (v := Int32.ofInt a0) (by decide +kernel) (by rfl) ?_
      refine ev_r_iast (pc := 26) ha0 hx5 (by decide +kernel) (by exact (ev_fo_10_0 hk)) ?_
      intro s6
      refine ev_r_aload_n (pc := 27) (k := 0) (v := .ref k) trivial (by decide +kernel) (by rfl) ?_
      refine ev_r_dup (pc := 28) rfl (by decide +kernel) ?_
      refine ev_r_getI (pc := 29) (y := 15) (ci := 10) (f := 1) (fin := 0) (by decide +kernel) (by decide +kernel) (by exact hk) rfl ?_
      intro x7 hx7
      refine ev_r_iconst (pc := 32) (k := 1) (by decide +kernel) ?_
      refine ev_r_iadd (pc := 33) (by decide +kernel) ?_
      intro x8 hx8
      refine ev_r_putI (pc := 34) (y := 15) (ci := 10) (f := 1) hx8 (by decide +kernel) (by decide +kernel) (by exact hk) rfl rfl ?_
      intro s9
      exact ev_r_return (pc := 37) (x := ()) trivial (by decide +kernel) (by decide +kernel) rfl
/-- MendBench$Pattern.isNode(I)Z -/
def jm_59 (Q : Nat) (k : Nat) (a0 : Int) (S : ev_St) : Option ((Int) × ev_St) := if a0 < 0 then (some (0, S)) else (ev_b (S.1 k 11) fun x2 => if x2 ≤ a0 then (some (0, S)) else (if 400 ≤ a0 then (some (0, S)) else (some (1, S))))
theorem jt_59 (d : Nat) (hd : 1 ≤ d) (Q : Nat) (k : Nat) (a0 : Int) (hk : ev_isOb k 5 = true) (ha0 : ev_rng a0) (S : ev_St) (x : Int) (S' : ev_St) (hJ : jm_59 Q k a0 S = some (x, S')) : ev_Ref d 59 [.ref k, .int (Int32.ofInt a0)] S (ev_eI x) S' (ev_bl x) := by
  obtain ⟨d, rfl⟩ : ∃ e, d = e + 1 := ⟨d - 1, by omega⟩
  refine ev_ref_of (P := ev_bl) (lv := [(0, .ref k), (1, .int (Int32.ofInt a0))]) (by decide +kernel) rfl rfl ?_ x S' hJ
  unfold jm_59
  refine ev_r_iload_n (pc := 0) (k := 1) (v := Int32.ofInt a0) (by decide +kernel) (by rfl) ?_
  refine ev_r_if (pc := 1) (q := .lt) (o := 22) (t := 23) (c := a0 < 0) (by decide +kernel) (ev_k_lt ha0 ev_rng0) (by decide +kernel) ?_ ?_
  · intro c1
    refine ev_r_iconst (pc := 23) (k := 0) (by decide +kernel) ?_
    exact ev_r_ireturn (pc := 24) (x := 0) (v := Int32.ofInt 0) (ty := .boolean) (by decide : ev_bl 0) (by decide +kernel) (by decide +kernel) (ev_ret_bl (by decide : ev_bl 0)) rfl
  · intro c1
    refine ev_r_iload_n (pc := 4) (k := 1) (v := Int32.ofInt a0) (by decide +kernel) (by rfl) ?_
    refine ev_r_aload_n (pc := 5) (k := 0) (v := .ref k) trivial (by decide +kernel) (by rfl) ?_
    refine ev_r_getI (pc := 6) (y := 60) (ci := 5) (f := 11) (fin := 0) (by decide +kernel) (by decide +kernel) (by exact hk) rfl ?_
    intro x2 hx2
    refine ev_r_icmp (pc := 9) (q := .ge) (o := 14) (t := 23) (c := x2 ≤ a0) (by decide +kernel) (ev_k_ge ha0 hx2) (by decide +kernel) ?_ ?_
    · intro c3
      refine ev_r_iconst (pc := 23) (k := 0) (by decide +kernel) ?_
      exact ev_r_ireturn (pc := 24) (x := 0) (v := Int32.ofInt 0) (ty := .boolean) (by decide : ev_bl 0) (by decide +kernel) (by decide +kernel) (ev_ret_bl (by decide : ev_bl 0)) rfl
    · intro c3
      refine ev_r_iload_n (pc := 12) (k := 1) (v := Int32.ofInt a0) (by decide +kernel) (by rfl) ?_
      refine ev_r_sipush (pc := 13) (k := 400) (by decide +kernel) (by decide +kernel) ?_
      refine ev_r_icmp (pc := 16) (q := .ge) (o := 7) (t := 23) (c := 400 ≤ a0) (by decide +kernel) (ev_k_ge ha0 (by decide)) (by decide +kernel) ?_ ?_
      · intro c4
        refine ev_r_iconst (pc := 23) (k := 0) (by decide +kernel) ?_
        exact ev_r_ireturn (pc := 24) (x := 0) (v := Int32.ofInt 0) (ty := .boolean) (by decide : ev_bl 0) (by decide +kernel) (by decide +kernel) (ev_ret_bl (by decide : ev_bl 0)) rfl
      · intro c4
        refine ev_r_iconst (pc := 19) (k := 1) (by decide +kernel) ?_
        refine ev_r_goto (pc := 20) (o := 4) (t := 24) (by decide +kernel) (by decide +kernel) ?_
        exact ev_r_ireturn (pc := 24) (x := 1) (v := Int32.ofInt 1) (ty := .boolean) (by decide : ev_bl 1) (by decide +kernel) (by decide +kernel) (ev_ret_bl (by decide : ev_bl 1)) rfl
/-- MendBench$Pattern.add(III)I -/
def jm_58 (Q : Nat) (k : Nat) (a0 : Int) (a1 : Int) (a2 : Int) (S : ev_St) : Option ((Int) × ev_St) := ev_b (S.1 k 11) fun x1 => if x1 < 0 then (some ((-1), S)) else (ev_b (S.1 k 11) fun x3 => if x3 < 400 then (ev_b (S.1 k 11) fun x5 => ev_if (0 ≤ x5 ∧ x5 < (ev_aln ((k + 1)) : Int)) (ev_b (ev_pI S ((k + 1)) (Int.toNat x5) a0) fun s6 => ev_b (s6.1 k 11) fun x7 => ev_if (0 ≤ x7 ∧ x7 < (ev_aln ((k + 2)) : Int)) (ev_b (ev_pI s6 ((k + 2)) (Int.toNat x7) a1) fun s8 => ev_b (s8.1 k 11) fun x9 => ev_if (0 ≤ x9 ∧ x9 < (ev_aln ((k + 3)) : Int)) (ev_b (ev_pI s8 ((k + 3)) (Int.toNat x9) a2) fun s10 => ev_b (s10.1 k 11) fun x11 => ev_if (0 ≤ x11 ∧ x11 < (ev_aln ((k + 4)) : Int)) (ev_b (ev_pI s10 ((k + 4)) (Int.toNat x11) ((-1))) fun s12 => ev_b (s12.1 k 11) fun x13 => ev_if (0 ≤ x13 ∧ x13 < (ev_aln ((k + 5)) : Int)) (ev_b (ev_pI s12 ((k + 5)) (Int.toNat x13) ((-1))) fun s14 => ev_b (s14.1 k 11) fun x15 => ev_if (0 ≤ x15 ∧ x15 < (ev_aln ((k + 6)) : Int)) (ev_b (ev_pI s14 ((k + 6)) (Int.toNat x15) ((-1))) fun s16 => ev_b (s16.1 k 11) fun x17 => ev_if (0 ≤ x17 ∧ x17 < (ev_aln ((k + 7)) : Int)) (ev_b (ev_pI s16 ((k + 7)) (Int.toNat x17) ((-1))) fun s18 => ev_b (s18.1 k 11) fun x19 => ev_ck (x19 + 1) fun x20 => ev_b (ev_pI s18 k 11 x20) fun s21 => ev_b (s21.1 k 11) fun x22 => ev_ck (x22 - 1) fun x23 => some (x23, s21))))))))) else (some ((-1), S)))
theorem jt_58 (d : Nat) (hd : 1 ≤ d) (Q : Nat) (k : Nat) (a0 : Int) (a1 : Int) (a2 : Int) (hk : ev_isOb k 5 = true) (ha0 : ev_rng a0) (ha1 : ev_rng a1) (ha2 : ev_rng a2) (S : ev_St) (x : Int) (S' : ev_St) (hJ : jm_58 Q k a0 a1 a2 S = some (x, S')) : ev_Ref d 58 [.ref k, .int (Int32.ofInt a0), .int (Int32.ofInt a1), .int (Int32.ofInt a2)] S (ev_eI x) S' (ev_rng x) := by
  obtain ⟨d, rfl⟩ : ∃ e, d = e + 1 := ⟨d - 1, by omega⟩
  refine ev_ref_of (P := ev_rng) (lv := [(0, .ref k), (1, .int (Int32.ofInt a0)), (2, .int (Int32.ofInt a1)), (3, .int (Int32.ofInt a2))]) (by decide +kernel) rfl rfl ?_ x S' hJ
  unfold jm_58
  refine ev_r_aload_n (pc := 0) (k := 0) (v := .ref k) trivial (by decide +kernel) (by rfl) ?_
  refine ev_r_getI (pc := 1) (y := 60) (ci := 5) (f := 11) (fin := 0) (by decide +kernel) (by decide +kernel) (by exact hk) rfl ?_
  intro x1 hx1
  refine ev_r_if (pc := 4) (q := .lt) (o := 13) (t := 17) (c := x1 < 0) (by decide +kernel) (ev_k_lt hx1 ev_rng0) (by decide +kernel) ?_ ?_
  · intro c2
    refine ev_r_iconst (pc := 17) (k := -1) (by decide +kernel) ?_
    exact ev_r_ireturn (pc := 18) (x := (-1)) (v := Int32.ofInt ((-1))) (ty := .int) (by decide) (by decide +kernel) (by decide +kernel) rfl rfl
  · intro c2
    refine ev_r_aload_n (pc := 7) (k := 0) (v := .ref k) trivial (by decide +kernel) (by rfl) ?_
    refine ev_r_getI (pc := 8) (y := 60) (ci := 5) (f := 11) (fin := 0) (by decide +kernel) (by decide +kernel) (by exact hk) rfl ?_
    intro x3 hx3
    refine ev_r_sipush (pc := 11) (k := 400) (by decide +kernel) (by decide +kernel) ?_
    refine ev_r_icmp (pc := 14) (q := .lt) (o := 5) (t := 19) (c := x3 < 400) (by decide +kernel) (ev_k_lt hx3 (by decide)) (by decide +kernel) ?_ ?_
    · intro c4
      refine ev_r_aload_n (pc := 19) (k := 0) (v := .ref k) trivial (by decide +kernel) (by rfl) ?_
      refine ev_r_getC (pc := 20) (y := 11) (ci := 5) (f := 0) (fin := 1) (k' := (k + 1)) (by decide +kernel) (by decide +kernel) (by exact hk) rfl rfl ?_
      refine ev_r_aload_n (pc := 23) (k := 0) (v := .ref k) trivial (by decide +kernel) (by rfl) ?_
      refine ev_r_getI (pc := 24) (y := 60) (ci := 5) (f := 11) (fin := 0) (by decide +kernel) (by decide +kernel) (by exact hk) rfl ?_
      intro x5 hx5
      refine ev_r_iload_n (pc := 27) (k := 1) (v := Int32.ofInt a0) (by decide +kernel) (by rfl) ?_
      refine ev_r_iast (pc := 28) ha0 hx5 (by decide +kernel) (by exact (ev_fo_5_0 hk)) ?_
      intro s6
      refine ev_r_aload_n (pc := 29) (k := 0) (v := .ref k) trivial (by decide +kernel) (by rfl) ?_
      refine ev_r_getC (pc := 30) (y := 15) (ci := 5) (f := 1) (fin := 1) (k' := (k + 2)) (by decide +kernel) (by decide +kernel) (by exact hk) rfl rfl ?_
      refine ev_r_aload_n (pc := 33) (k := 0) (v := .ref k) trivial (by decide +kernel) (by rfl) ?_
      refine ev_r_getI (pc := 34) (y := 60) (ci := 5) (f := 11) (fin := 0) (by decide +kernel) (by decide +kernel) (by exact hk) rfl ?_
      intro x7 hx7
      refine ev_r_iload_n (pc := 37) (k := 2) (v := Int32.ofInt a1) (by decide +kernel) (by rfl) ?_
      refine ev_r_iast (pc := 38) ha1 hx7 (by decide +kernel) (by exact (ev_fo_5_1 hk)) ?_
      intro s8
      refine ev_r_aload_n (pc := 39) (k := 0) (v := .ref k) trivial (by decide +kernel) (by rfl) ?_
      refine ev_r_getC (pc := 40) (y := 18) (ci := 5) (f := 2) (fin := 1) (k' := (k + 3)) (by decide +kernel) (by decide +kernel) (by exact hk) rfl rfl ?_
      refine ev_r_aload_n (pc := 43) (k := 0) (v := .ref k) trivial (by decide +kernel) (by rfl) ?_
      refine ev_r_getI (pc := 44) (y := 60) (ci := 5) (f := 11) (fin := 0) (by decide +kernel) (by decide +kernel) (by exact hk) rfl ?_
      intro x9 hx9
      refine ev_r_iload_n (pc := 47) (k := 3) (v := Int32.ofInt a2) (by decide +kernel) (by rfl) ?_
      refine ev_r_iast (pc := 48) ha2 hx9 (by decide +kernel) (by exact (ev_fo_5_2 hk)) ?_
      intro s10
      refine ev_r_aload_n (pc := 49) (k := 0) (v := .ref k) trivial (by decide +kernel) (by rfl) ?_
      refine ev_r_getC (pc := 50) (y := 21) (ci := 5) (f := 3) (fin := 1) (k' := (k + 4)) (by decide +kernel) (by decide +kernel) (by exact hk) rfl rfl ?_
      refine ev_r_aload_n (pc := 53) (k := 0) (v := .ref k) trivial (by decide +kernel) (by rfl) ?_
      refine ev_r_getI (pc := 54) (y := 60) (ci := 5) (f := 11) (fin := 0) (by decide +kernel) (by decide +kernel) (by exact hk) rfl ?_
      intro x11 hx11
      refine ev_r_iconst (pc := 57) (k := -1) (by decide +kernel) ?_
      refine ev_r_iast (pc := 58) (by decide) hx11 (by decide +kernel) (by exact (ev_fo_5_3 hk)) ?_
      intro s12
      refine ev_r_aload_n (pc := 59) (k := 0) (v := .ref k) trivial (by decide +kernel) (by rfl) ?_
      refine ev_r_getC (pc := 60) (y := 24) (ci := 5) (f := 4) (fin := 1) (k' := (k + 5)) (by decide +kernel) (by decide +kernel) (by exact hk) rfl rfl ?_
      refine ev_r_aload_n (pc := 63) (k := 0) (v := .ref k) trivial (by decide +kernel) (by rfl) ?_
      refine ev_r_getI (pc := 64) (y := 60) (ci := 5) (f := 11) (fin := 0) (by decide +kernel) (by decide +kernel) (by exact hk) rfl ?_
      intro x13 hx13
      refine ev_r_iconst (pc := 67) (k := -1) (by decide +kernel) ?_
      refine ev_r_iast (pc := 68) (by decide) hx13 (by decide +kernel) (by exact (ev_fo_5_4 hk)) ?_
      intro s14
      refine ev_r_aload_n (pc := 69) (k := 0) (v := .ref k) trivial (by decide +kernel) (by rfl) ?_
      refine ev_r_getC (pc := 70) (y := 27) (ci := 5) (f := 5) (fin := 1) (k' := (k + 6)) (by decide +kernel) (by decide +kernel) (by exact hk) rfl rfl ?_
      refine ev_r_aload_n (pc := 73) (k := 0) (v := .ref k) trivial (by decide +kernel) (by rfl) ?_
      refine ev_r_getI (pc := 74) (y := 60) (ci := 5) (f := 11) (fin := 0) (by decide +kernel) (by decide +kernel) (by exact hk) rfl ?_
      intro x15 hx15
      refine ev_r_iconst (pc := 77) (k := -1) (by decide +kernel) ?_
      refine ev_r_iast (pc := 78) (by decide) hx15 (by decide +kernel) (by exact (ev_fo_5_5 hk)) ?_
      intro s16
      refine ev_r_aload_n (pc := 79) (k := 0) (v := .ref k) trivial (by decide +kernel) (by rfl) ?_
      refine ev_r_getC (pc := 80) (y := 30) (ci := 5) (f := 6) (fin := 1) (k' := (k + 7)) (by decide +kernel) (by decide +kernel) (by exact hk) rfl rfl ?_
      refine ev_r_aload_n (pc := 83) (k := 0) (v := .ref k) trivial (by decide +kernel) (by rfl) ?_
      refine ev_r_getI (pc := 84) (y := 60) (ci := 5) (f := 11) (fin := 0) (by decide +kernel) (by decide +kernel) (by exact hk) rfl ?_
      intro x17 hx17
      refine ev_r_iconst (pc := 87) (k := -1) (by decide +kernel) ?_
      refine ev_r_iast (pc := 88) (by decide) hx17 (by decide +kernel) (by exact (ev_fo_5_6 hk)) ?_
      intro s18
      refine ev_r_aload_n (pc := 89) (k := 0) (v := .ref k) trivial (by decide +kernel) (by rfl) ?_
      refine ev_r_dup (pc := 90) rfl (by decide +kernel) ?_
      refine ev_r_getI (pc := 91) (y := 60) (ci := 5) (f := 11) (fin := 0) (by decide +kernel) (by decide +kernel) (by exact hk) rfl ?_
      intro x19 hx19
      refine ev_r_iconst (pc := 94) (k := 1) (by decide +kernel) ?_
      refine ev_r_iadd (pc := 95) (by decide +kernel) ?_
      intro x20 hx20
      refine ev_r_putI (pc := 96) (y := 60) (ci := 5) (f := 11) hx20 (by decide +kernel) (by decide +kernel) (by exact hk) rfl rfl ?_
      intro s21
      refine ev_r_aload_n (pc := 99) (k := 0) (v := .ref k) trivial (by decide +kernel) (by rfl) ?_
      refine ev_r_getI (pc := 100) (y := 60) (ci := 5) (f := 11) (fin := 0) (by decide +kernel) (by decide +kernel) (by exact hk) rfl ?_
      intro x22 hx22
      refine ev_r_iconst (pc := 103) (k := 1) (by decide +kernel) ?_
      refine ev_r_isub (pc := 104) (by decide +kernel) ?_
      intro x23 hx23
      exact ev_r_ireturn (pc := 105) (x := x23) (v := Int32.ofInt x23) (ty := .int) hx23 (by decide +kernel) (by decide +kernel) rfl rfl
    · intro c4
      refine ev_r_iconst (pc := 17) (k := -1) (by decide +kernel) ?_
      exact ev_r_ireturn (pc := 18) (x := (-1)) (v := Int32.ofInt ((-1))) (ty := .int) (by decide) (by decide +kernel) (by decide +kernel) rfl rfl
/-- MendBench.hasSign(JJI)Z -/
def jm_214 (Q : Nat) (a0 : Int64) (a1 : Int64) (a2 : Int) (S : ev_St) : Option ((Int) × ev_St) := if a2 < 0 then (some (0, S)) else (if 128 ≤ a2 then (some (0, S)) else (ev_jn (fun (y3 : Int64) (s6 : ev_St) => ev_b (ev_iand a2 63) fun x7 => ev_b (ev_lushr y3 x7) fun y8 => ev_b (y8 &&& (Int64.ofNat ((1 : Fin 2) : Nat))) fun y9 => ev_b (ev_lcmp y9 ((Int64.ofNat ((0 : Fin 2) : Nat)))) fun x10 => if x10 = 0 then (some (0, s6)) else (some (1, s6))) fun K25 => if 64 ≤ a2 then (K25 a1 S) else (K25 a0 S)))
theorem jt_214 (d : Nat) (hd : 1 ≤ d) (Q : Nat) (a0 : Int64) (a1 : Int64) (a2 : Int) (ha2 : ev_rng a2) (S : ev_St) (x : Int) (S' : ev_St) (hJ : jm_214 Q a0 a1 a2 S = some (x, S')) : ev_Ref d 214 [.long a0, .long a1, .int (Int32.ofInt a2)] S (ev_eI x) S' (ev_bl x) := by
  obtain ⟨d, rfl⟩ : ∃ e, d = e + 1 := ⟨d - 1, by omega⟩
  refine ev_ref_of (P := ev_bl) (lv := [(0, .long a0), (2, .long a1), (4, .int (Int32.ofInt a2))]) (by decide +kernel) rfl rfl ?_ x S' hJ
  unfold jm_214
  refine ev_r_iload (pc := 0) (k := 4) (v := Int32.ofInt a2) (by decide +kernel) (by rfl) ?_
  refine ev_r_if (pc := 2) (q := .lt) (o := 40) (t := 42) (c := a2 < 0) (by decide +kernel) (ev_k_lt ha2 ev_rng0) (by decide +kernel) ?_ ?_
  · intro c1
    refine ev_r_iconst (pc := 42) (k := 0) (by decide +kernel) ?_
    exact ev_r_ireturn (pc := 43) (x := 0) (v := Int32.ofInt 0) (ty := .boolean) (by decide : ev_bl 0) (by decide +kernel) (by decide +kernel) (ev_ret_bl (by decide : ev_bl 0)) rfl
  · intro c1
    refine ev_r_iload (pc := 5) (k := 4) (v := Int32.ofInt a2) (by decide +kernel) (by rfl) ?_
    refine ev_r_sipush (pc := 7) (k := 128) (by decide +kernel) (by decide +kernel) ?_
    refine ev_r_icmp (pc := 10) (q := .ge) (o := 32) (t := 42) (c := 128 ≤ a2) (by decide +kernel) (ev_k_ge ha2 (by decide)) (by decide +kernel) ?_ ?_
    · intro c2
      refine ev_r_iconst (pc := 42) (k := 0) (by decide +kernel) ?_
      exact ev_r_ireturn (pc := 43) (x := 0) (v := Int32.ofInt 0) (ty := .boolean) (by decide : ev_bl 0) (by decide +kernel) (by decide +kernel) (ev_ret_bl (by decide : ev_bl 0)) rfl
    · intro c2
      refine ev_r_iload (pc := 13) (k := 4) (v := Int32.ofInt a2) (by decide +kernel) (by rfl) ?_
      refine ev_r_bipush (pc := 15) (k := 64) (by decide +kernel) (by decide +kernel) ?_
      refine ev_r_jn (Q := fun K => ∀ (y3 : Int64), ∀ (s6 : ev_St) (w4 : List (Nat × Value)), ev_lk w4 4 = some (.int (Int32.ofInt a2)) → ev_w none (ev_Mof 214) d 25 w4 [.long y3] s6 (K y3 s6) ev_eI ev_bl) ?_ ?_
      · intro y3 s6 w4 e5
        refine ev_r_iload (pc := 25) (k := 4) (v := Int32.ofInt a2) (by decide +kernel) (by exact e5) ?_
        refine ev_r_bipush (pc := 27) (k := 63) (by decide +kernel) (by decide +kernel) ?_
        refine ev_r_iand (pc := 29) (by decide +kernel) ?_
        intro x7 hx7
        refine ev_r_toL (pc := 30) (i := .lushr) (len := 1) (pc' := 31) (by decide +kernel) rfl ?_
        intro y8
        refine ev_r_lconst (pc := 31) (c := 1) (by decide +kernel) ?_
        refine ev_r_toL (pc := 32) (i := .land) (len := 1) (pc' := 33) (by decide +kernel) rfl ?_
        intro y9
        refine ev_r_lconst (pc := 33) (c := 0) (by decide +kernel) ?_
        refine ev_r_toI (pc := 34) (i := .lcmp) (len := 1) (pc' := 35) (by decide +kernel) rfl ?_
        intro x10 hx10
        refine ev_r_if (pc := 35) (q := .eq) (o := 7) (t := 42) (c := x10 = 0) (by decide +kernel) (ev_k_eq hx10 ev_rng0) (by decide +kernel) ?_ ?_
        · intro c11
          refine ev_r_iconst (pc := 42) (k := 0) (by decide +kernel) ?_
          exact ev_r_ireturn (pc := 43) (x := 0) (v := Int32.ofInt 0) (ty := .boolean) (by decide : ev_bl 0) (by decide +kernel) (by decide +kernel) (ev_ret_bl (by decide : ev_bl 0)) rfl
        · intro c11
          refine ev_r_iconst (pc := 38) (k := 1) (by decide +kernel) ?_
          refine ev_r_goto (pc := 39) (o := 4) (t := 43) (by decide +kernel) (by decide +kernel) ?_
          exact ev_r_ireturn (pc := 43) (x := 1) (v := Int32.ofInt 1) (ty := .boolean) (by decide : ev_bl 1) (by decide +kernel) (by decide +kernel) (ev_ret_bl (by decide : ev_bl 1)) rfl
      · intro K25 hK25
        refine ev_r_icmp (pc := 17) (q := .ge) (o := 7) (t := 24) (c := 64 ≤ a2) (by decide +kernel) (ev_k_ge ha2 (by decide)) (by decide +kernel) ?_ ?_
        · intro c12
          refine ev_r_lload_n (pc := 24) (k := 2) (v := a1) (by decide +kernel) (by rfl) ?_
          exact hK25 a1 S _ (by rfl)
        · intro c12
          refine ev_r_lload_n (pc := 20) (k := 0) (v := a0) (by decide +kernel) (by rfl) ?_
          refine ev_r_goto (pc := 21) (o := 4) (t := 25) (by decide +kernel) (by decide +kernel) ?_
          exact hK25 a0 S _ (by rfl)
