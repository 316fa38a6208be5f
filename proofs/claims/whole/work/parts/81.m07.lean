/-! METHODS as functions, laid by decomp.py -/
theorem ev_ob_0 : ev_isOb 0 12 = true := (by decide +kernel)
theorem ev_ob_1 : ev_isOb 1 10 = true := (by decide +kernel)
theorem ev_ob_232 : ev_isOb 232 5 = true := (by decide +kernel)
theorem ev_el_252 {i : Int} (h : 0 ≤ i ∧ i < (12 : Int)) : ev_isOb (313 + 20 * i.toNat) 5 = true := (show ∀ j, j < 12 → ev_isOb (313 + 20 * j) 5 = true from (by decide +kernel)) i.toNat (by omega)
theorem ev_el_253 {i : Int} (h : 0 ≤ i ∧ i < (8 : Int)) : ev_isOb (553 + 2 * i.toNat) 10 = true := (show ∀ j, j < 8 → ev_isOb (553 + 2 * j) 10 = true from (by decide +kernel)) i.toNat (by omega)
theorem ev_ob_294 : ev_isOb 294 11 = true := (by decide +kernel)
theorem ev_ob_284 : ev_isOb 284 11 = true := (by decide +kernel)
theorem ev_ab_2 : ev_isAb 2 1 .int = true := (by decide +kernel)
theorem ev_el_304 {i : Int} (h : 0 ≤ i ∧ i < (6 : Int)) : ev_isAb (305 + 1 * i.toNat) 1 .int = true := (show ∀ j, j < 6 → ev_isAb (305 + 1 * j) 1 .int = true from (by decide +kernel)) i.toNat (by omega)
theorem ev_ab_311 : ev_isAb 311 1 .int = true := (by decide +kernel)
theorem ev_el_312 {i : Int} (h : 0 ≤ i ∧ i < (4 : Int)) : ev_isOb (569 + 13 * i.toNat) 9 = true := (show ∀ j, j < 4 → ev_isOb (569 + 13 * j) 9 = true from (by decide +kernel)) i.toNat (by omega)
/-- MendBench$Stream.tell()I -/
def jm_149 (Q : Nat) (k : Nat) (S : ev_St) : Option ((Int) × ev_St) := ev_b (S.1 k 3) fun x1 => ev_jn (fun  (s4 : ev_St) => ev_bd (jm_159 Q ((k + 3)) 0 s4) fun x6 s5 => some (x6, s5)) fun K22 => if x1 ≠ 0 then (K22  S) else (ev_b (S.1 ((k + 3)) 15) fun x8 => if x8 ≤ 0 then (K22  S) else (some ((-5), S)))
theorem jt_149 (d : Nat) (hd : 2 ≤ d) (Q : Nat) (k : Nat) (hk : ev_isOb k 9 = true) (S : ev_St) (x : Int) (S' : ev_St) (hJ : jm_149 Q k S = some (x, S')) : ev_Ref d 149 [.ref k] S (ev_eI x) S' (ev_rng x) := by
  obtain ⟨d, rfl⟩ : ∃ e, d = e + 1 := ⟨d - 1, by omega⟩
  refine ev_ref_of (P := ev_rng) (lv := [(0, .ref k)]) (by decide +kernel) (by (try simp only [ev_sum, ev_nv_cat]); first | done | rfl) (by (try simp only [lv_args, ev_nv_cat]); first | done | rfl) ?_ x S' hJ
  unfold jm_149
  refine ev_r_aload_n (pc := 0) (k := 0) (v := .ref k) trivial (by decide +kernel) (by rfl) ?_
  refine ev_r_getI (pc := 1) (y := 54) (ci := 9) (f := 3) (fin := 0) (by decide +kernel) (by decide +kernel) (by exact hk) rfl ?_
  intro x1 hx1
  refine ev_r_jn (Q := fun K => ∀ (s4 : ev_St) (w2 : List (Nat × Value)), ev_lk w2 0 = some (.ref k) → ev_w none (ev_Mof 149) d 22 w2 [] s4 (K  s4) ev_eI ev_rng) ?_ ?_
  · intro  s4 w2 e3
    refine ev_r_aload_n (pc := 22) (k := 0) (v := .ref k) trivial (by decide +kernel) (by exact e3) ?_
    refine ev_r_getC (pc := 23) (y := 23) (ci := 9) (f := 1) (fin := 1) (k' := (k + 3)) (by decide +kernel) (by decide +kernel) (by exact hk) rfl rfl ?_
    refine ev_r_iconst (pc := 26) (k := 0) (by decide +kernel) ?_
    refine ev_r_virt (pc := 27) (y := 58) (mi := 159) (na := 1) (k := (k + 3)) (as := [.int (Int32.ofInt 0)]) (rest := []) (encc := ev_oI) (Q := ev_rng) (fun x S1 h => jt_159 d (by omega) Q ((k + 3)) 0 (ev_fo_9_1 hk) (by decide) s4 x S1 h) (by exact (ev_fo_9_1 hk)) (by decide +kernel) (by decide +kernel) (by decide +kernel) (by decide +kernel) rfl (by (try simp only [ev_sum, ev_nv_cat]); first | done | rfl) ?_
    intro x6 s5 hx6
    show ev_w _ _ _ _ _ [.int (Int32.ofInt x6)] _ _ _ _
    exact ev_r_ireturn (pc := 30) (x := x6) (v := Int32.ofInt x6) (ty := .int) hx6 (by decide +kernel) (by decide +kernel) rfl rfl
  · intro K22 hK22
    refine ev_r_if (pc := 4) (q := .ne) (o := 18) (t := 22) (c := x1 ≠ 0) (by decide +kernel) (ev_k_ne hx1 ev_rng0) (by decide +kernel) ?_ ?_
    · intro c7
      exact hK22  S _ (by rfl)
    · intro c7
      refine ev_r_aload_n (pc := 7) (k := 0) (v := .ref k) trivial (by decide +kernel) (by rfl) ?_
      refine ev_r_getC (pc := 8) (y := 23) (ci := 9) (f := 1) (fin := 1) (k' := (k + 3)) (by decide +kernel) (by decide +kernel) (by exact hk) rfl rfl ?_
      refine ev_r_getI (pc := 11) (y := 57) (ci := 11) (f := 15) (fin := 0) (by decide +kernel) (by decide +kernel) (by exact (ev_fo_9_1 hk)) rfl ?_
      intro x8 hx8
      refine ev_r_if (pc := 14) (q := .le) (o := 8) (t := 22) (c := x8 ≤ 0) (by decide +kernel) (ev_k_le hx8 ev_rng0) (by decide +kernel) ?_ ?_
      · intro c9
        exact hK22  S _ (by rfl)
      · intro c9
        refine ev_r_bipush (pc := 17) (k := -5) (by decide +kernel) (by decide +kernel) ?_
        refine ev_r_goto (pc := 19) (o := 11) (t := 30) (by decide +kernel) (by decide +kernel) ?_
        exact ev_r_ireturn (pc := 30) (x := (-5)) (v := Int32.ofInt ((-5))) (ty := .int) (by decide) (by decide +kernel) (by decide +kernel) rfl rfl
def jb_157_8 (Q : Nat) (k : Nat) (a1 : Nat)  (K8 : Int → ev_St → Option ((Unit) × ev_St)) (x2 : Int) (s7 : ev_St) : Option ((Unit) × ev_St) := ev_if (a1 ≠ 0) (ev_b (s7.1 ((a1 - 1)) 1) fun x9 => if x9 < x2 then (some ((), s7)) else (ev_bd (jm_160 Q k a1 x2 1 s7) fun _ s11 => ev_b (s11.1 k 14) fun x12 => ev_jn (fun  (s17 : ev_St) => ev_bd (jm_161 Q k a1 x2 s17) fun _ s18 => ev_ck (x2 + 1) fun x19 => K8 x19 s18) fun K40 => if x12 = 0 then (K40  s11) else (ev_b (s11.1 k 15) fun x21 => if x21 ≠ 0 then (K40  s11) else (some ((), s11)))))
def jl_157_8 (Q : Nat) (k : Nat) (a1 : Nat)  : Nat → Int → ev_St → Option ((Unit) × ev_St)
  | 0 => fun _ _ => none
  | q + 1 => jb_157_8 Q k a1  (jl_157_8 Q k a1  q)
theorem jbt_157_8 (d : Nat) (hd : 6 ≤ d + 1) (Q : Nat) (k : Nat) (a1 : Nat) (hk : ev_isOb k 11 = true) (ha1 : a1 = 0 ∨ ev_isOb (a1 - 1) 10 = true)   (K8 : Int → ev_St → Option ((Unit) × ev_St)) (hK8 : ∀ (x2 : Int) (hx2 : ev_rng x2), ∀ (s7 : ev_St) (w3 : List (Nat × Value)), ev_lk w3 0 = some (.ref k) → ev_lk w3 2 = some (ev_nv a1) → ev_lk w3 4 = some (.int (Int32.ofInt x2)) → ev_w none (ev_Mof 157) d 8 w3 [] s7 (K8 x2 s7) ev_eU ev_PU) : ∀ (x2 : Int) (hx2 : ev_rng x2), ∀ (s7 : ev_St) (w3 : List (Nat × Value)), ev_lk w3 0 = some (.ref k) → ev_lk w3 2 = some (ev_nv a1) → ev_lk w3 4 = some (.int (Int32.ofInt x2)) → ev_w none (ev_Mof 157) d 8 w3 [] s7 (jb_157_8 Q k a1  K8 x2 s7) ev_eU ev_PU := by
  intro x2 hx2 s7 w3 e4 e5 e6
  unfold jb_157_8
  refine ev_r_iload (pc := 8) (k := 4) (v := Int32.ofInt x2) (by decide +kernel) (by exact e6) ?_
  refine ev_r_aload_n (pc := 10) (k := 2) (v := ev_nv a1) (ev_isR_nv _) (by decide +kernel) (by exact e5) ?_
  refine ev_r_chk ?_
  intro c8
  refine ev_r_dr (r := a1) (fun v => [v, .int (Int32.ofInt x2)]) c8 ?_
  refine ev_r_getI (pc := 11) (y := 49) (ci := 10) (f := 1) (fin := 0) (by decide +kernel) (by decide +kernel) (by exact (ha1.resolve_left c8)) rfl ?_
  intro x9 hx9
  refine ev_r_icmp (pc := 14) (q := .gt) (o := 39) (t := 53) (c := x9 < x2) (by decide +kernel) (ev_k_gt hx2 hx9) (by decide +kernel) ?_ ?_
  · intro c10
    exact ev_r_return (pc := 53) (x := ()) trivial (by decide +kernel) (by decide +kernel) rfl
  · intro c10
    refine ev_r_aload_n (pc := 17) (k := 0) (v := .ref k) trivial (by decide +kernel) (by exact e4) ?_
    refine ev_r_aload_n (pc := 18) (k := 2) (v := ev_nv a1) (ev_isR_nv _) (by decide +kernel) (by exact e5) ?_
    refine ev_r_iload (pc := 19) (k := 4) (v := Int32.ofInt x2) (by decide +kernel) (by exact e6) ?_
    refine ev_r_iconst (pc := 21) (k := 1) (by decide +kernel) ?_
    refine ev_r_virt (pc := 22) (y := 54) (mi := 160) (na := 3) (k := k) (as := [ev_nv a1, .int (Int32.ofInt x2), .int (Int32.ofInt 1)]) (rest := []) (encc := ev_oU) (Q := ev_PU) (fun x S1 h => jt_160 d (by omega) Q k a1 x2 1 hk (by exact ha1) hx2 (by decide) s7 x S1 h) (by exact hk) (by decide +kernel) (by decide +kernel) (by decide +kernel) (by decide +kernel) rfl (by (try simp only [ev_sum, ev_nv_cat]); first | done | rfl) ?_
    intro _ s11 _
    show ev_w _ _ _ _ _ [] _ _ _ _
    refine ev_r_aload_n (pc := 25) (k := 0) (v := .ref k) trivial (by decide +kernel) (by exact e4) ?_
    refine ev_r_getI (pc := 26) (y := 58) (ci := 11) (f := 14) (fin := 0) (by decide +kernel) (by decide +kernel) (by exact hk) rfl ?_
    intro x12 hx12
    refine ev_r_jn (Q := fun K => ∀ (s17 : ev_St) (w13 : List (Nat × Value)), ev_lk w13 0 = some (.ref k) → ev_lk w13 2 = some (ev_nv a1) → ev_lk w13 4 = some (.int (Int32.ofInt x2)) → ev_w none (ev_Mof 157) d 40 w13 [] s17 (K  s17) ev_eU ev_PU) ?_ ?_
    · intro  s17 w13 e14 e15 e16
      refine ev_r_aload_n (pc := 40) (k := 0) (v := .ref k) trivial (by decide +kernel) (by exact e14) ?_
      refine ev_r_aload_n (pc := 41) (k := 2) (v := ev_nv a1) (ev_isR_nv _) (by decide +kernel) (by exact e15) ?_
      refine ev_r_iload (pc := 42) (k := 4) (v := Int32.ofInt x2) (by decide +kernel) (by exact e16) ?_
      refine ev_r_virt (pc := 44) (y := 63) (mi := 161) (na := 2) (k := k) (as := [ev_nv a1, .int (Int32.ofInt x2)]) (rest := []) (encc := ev_oU) (Q := ev_PU) (fun x S1 h => jt_161 d (by omega) Q k a1 x2 hk (by exact ha1) hx2 s17 x S1 h) (by exact hk) (by decide +kernel) (by decide +kernel) (by decide +kernel) (by decide +kernel) rfl (by (try simp only [ev_sum, ev_nv_cat]); first | done | rfl) ?_
      intro _ s18 _
      show ev_w _ _ _ _ _ [] _ _ _ _
      refine ev_r_iinc (pc := 47) (k := 4) (c := 1) (x := x2) (by decide +kernel) (by decide +kernel) (by exact e16) (fun _ => rfl) ?_
      intro x19 hx19
      refine ev_r_goto (pc := 50) (o := (-42)) (t := 8) (by decide +kernel) (by decide +kernel) ?_
      exact hK8 x19 hx19 s18 _ (by exact (ev_l1 e14 (by decide) (by decide))) (by exact (ev_l1 e15 (by decide) (by decide))) (by exact ev_lk_st1_self)
    · intro K40 hK40
      refine ev_r_if (pc := 29) (q := .eq) (o := 11) (t := 40) (c := x12 = 0) (by decide +kernel) (ev_k_eq hx12 ev_rng0) (by decide +kernel) ?_ ?_
      · intro c20
        exact hK40  s11 _ (by exact e4) (by exact e5) (by exact e6)
      · intro c20
        refine ev_r_aload_n (pc := 32) (k := 0) (v := .ref k) trivial (by decide +kernel) (by exact e4) ?_
        refine ev_r_getI (pc := 33) (y := 62) (ci := 11) (f := 15) (fin := 0) (by decide +kernel) (by decide +kernel) (by exact hk) rfl ?_
        intro x21 hx21
        refine ev_r_if (pc := 36) (q := .ne) (o := 4) (t := 40) (c := x21 ≠ 0) (by decide +kernel) (ev_k_ne hx21 ev_rng0) (by decide +kernel) ?_ ?_
        · intro c22
          exact hK40  s11 _ (by exact e4) (by exact e5) (by exact e6)
        · intro c22
          exact ev_r_return (pc := 39) (x := ()) trivial (by decide +kernel) (by decide +kernel) rfl
theorem jlt_157_8 (d : Nat) (hd : 6 ≤ d + 1) (Q : Nat) (k : Nat) (a1 : Nat) (hk : ev_isOb k 11 = true) (ha1 : a1 = 0 ∨ ev_isOb (a1 - 1) 10 = true)   : ∀ q : Nat, ∀ (x2 : Int) (hx2 : ev_rng x2), ∀ (s7 : ev_St) (w3 : List (Nat × Value)), ev_lk w3 0 = some (.ref k) → ev_lk w3 2 = some (ev_nv a1) → ev_lk w3 4 = some (.int (Int32.ofInt x2)) → ev_w none (ev_Mof 157) d 8 w3 [] s7 (jl_157_8 Q k a1  q x2 s7) ev_eU ev_PU := by
  intro q
  induction q with
  | zero =>
    intro x2 hx2 s7 w3 e4 e5 e6
    exact ev_w_none
  | succ q ih => exact jbt_157_8 d hd Q k a1 hk ha1   _ ih
/-- MendBench$Threads.run(LMendBench$Program;LMendBench$Text;I)V -/
def jm_157 (Q : Nat) (k : Nat) (a0 : Nat) (a1 : Nat) (a2 : Int) (S : ev_St) : Option ((Unit) × ev_St) := ev_bd (jm_158 Q k a0 S) fun _ s1 => jl_157_8 Q k a1  Q a2 s1
theorem jt_157 (d : Nat) (hd : 6 ≤ d) (Q : Nat) (k : Nat) (a0 : Nat) (a1 : Nat) (a2 : Int) (hk : ev_isOb k 11 = true) (ha0 : a0 = 0 ∨ ev_isOb (a0 - 1) 6 = true) (ha1 : a1 = 0 ∨ ev_isOb (a1 - 1) 10 = true) (ha2 : ev_rng a2) (S : ev_St) (x : Unit) (S' : ev_St) (hJ : jm_157 Q k a0 a1 a2 S = some (x, S')) : ev_Ref d 157 [.ref k, ev_nv a0, ev_nv a1, .int (Int32.ofInt a2)] S (ev_eU x) S' (ev_PU x) := by
  obtain ⟨d, rfl⟩ : ∃ e, d = e + 1 := ⟨d - 1, by omega⟩
  refine ev_ref_of (P := ev_PU) (lv := [(0, .ref k), (1, ev_nv a0), (2, ev_nv a1), (3, .int (Int32.ofInt a2))]) (by decide +kernel) (by (try simp only [ev_sum, ev_nv_cat]); first | done | rfl) (by (try simp only [lv_args, ev_nv_cat]); first | done | rfl) ?_ x S' hJ
  unfold jm_157
  refine ev_r_aload_n (pc := 0) (k := 0) (v := .ref k) trivial (by decide +kernel) (by rfl) ?_
  refine ev_r_aload_n (pc := 1) (k := 1) (v := ev_nv a0) (ev_isR_nv _) (by decide +kernel) (by rfl) ?_
  refine ev_r_virt (pc := 2) (y := 45) (mi := 158) (na := 1) (k := k) (as := [ev_nv a0]) (rest := []) (encc := ev_oU) (Q := ev_PU) (fun x S1 h => jt_158 d (by omega) Q k a0 hk (by exact ha0) S x S1 h) (by exact hk) (by decide +kernel) (by decide +kernel) (by decide +kernel) (by decide +kernel) rfl (by (try simp only [ev_sum, ev_nv_cat]); first | done | rfl) ?_
  intro _ s1 _
  show ev_w _ _ _ _ _ [] _ _ _ _
  refine ev_r_iload_n (pc := 5) (k := 3) (v := Int32.ofInt a2) (by decide +kernel) (by rfl) ?_
  refine ev_r_istore (pc := 6) (k := 4) (by decide +kernel) (by decide +kernel) rfl ?_
  exact jlt_157_8 d hd Q k a1 hk ha1   Q a2 ha2 s1 _ (by exact (ev_l1 (by rfl) (by decide) (by decide))) (by exact (ev_l1 (by rfl) (by decide) (by decide))) (by exact ev_lk_st1_self)
def jb_199_6 (Q : Nat)   (K6 : Int → Int → Int → ev_St → Option ((Int) × ev_St)) (x1 : Int) (x2 : Int) (x3 : Int) (s8 : ev_St) : Option ((Int) × ev_St) := if 4 ≤ x3 then (some (x1, s8)) else (if x2 = 0 then (some (x1, s8)) else (ev_b (ev_iand x2 255) fun x11 => ev_bd (jm_207 Q x11 s8) fun x13 s12 => if x13 ≠ 0 then (ev_ck (x1 + 1) fun x15 => ev_b (ev_iushr x2 8) fun x16 => ev_ck (x3 + 1) fun x17 => K6 x15 x16 x17 s12) else (some (0, s12))))
def jl_199_6 (Q : Nat)   : Nat → Int → Int → Int → ev_St → Option ((Int) × ev_St)
  | 0 => fun _ _ _ _ => none
  | q + 1 => jb_199_6 Q   (jl_199_6 Q   q)
theorem jbt_199_6 (d : Nat) (hd : 2 ≤ d + 1) (Q : Nat)     (K6 : Int → Int → Int → ev_St → Option ((Int) × ev_St)) (hK6 : ∀ (x1 : Int) (hx1 : ev_rng x1), ∀ (x2 : Int) (hx2 : ev_rng x2), ∀ (x3 : Int) (hx3 : ev_rng x3), ∀ (s8 : ev_St) (w4 : List (Nat × Value)), ev_lk w4 1 = some (.int (Int32.ofInt x1)) → ev_lk w4 2 = some (.int (Int32.ofInt x2)) → ev_lk w4 3 = some (.int (Int32.ofInt x3)) → ev_w none (ev_Mof 199) d 6 w4 [] s8 (K6 x1 x2 x3 s8) ev_eI ev_rng) : ∀ (x1 : Int) (hx1 : ev_rng x1), ∀ (x2 : Int) (hx2 : ev_rng x2), ∀ (x3 : Int) (hx3 : ev_rng x3), ∀ (s8 : ev_St) (w4 : List (Nat × Value)), ev_lk w4 1 = some (.int (Int32.ofInt x1)) → ev_lk w4 2 = some (.int (Int32.ofInt x2)) → ev_lk w4 3 = some (.int (Int32.ofInt x3)) → ev_w none (ev_Mof 199) d 6 w4 [] s8 (jb_199_6 Q   K6 x1 x2 x3 s8) ev_eI ev_rng := by
  intro x1 hx1 x2 hx2 x3 hx3 s8 w4 e5 e6 e7
  unfold jb_199_6
  refine ev_r_iload_n (pc := 6) (k := 3) (v := Int32.ofInt x3) (by decide +kernel) (by exact e7) ?_
  refine ev_r_iconst (pc := 7) (k := 4) (by decide +kernel) ?_
  refine ev_r_icmp (pc := 8) (q := .ge) (o := 34) (t := 42) (c := 4 ≤ x3) (by decide +kernel) (ev_k_ge hx3 (by decide)) (by decide +kernel) ?_ ?_
  · intro c9
    refine ev_r_iload_n (pc := 42) (k := 1) (v := Int32.ofInt x1) (by decide +kernel) (by exact e5) ?_
    exact ev_r_ireturn (pc := 43) (x := x1) (v := Int32.ofInt x1) (ty := .int) hx1 (by decide +kernel) (by decide +kernel) rfl rfl
  · intro c9
    refine ev_r_iload_n (pc := 11) (k := 2) (v := Int32.ofInt x2) (by decide +kernel) (by exact e6) ?_
    refine ev_r_if (pc := 12) (q := .eq) (o := 30) (t := 42) (c := x2 = 0) (by decide +kernel) (ev_k_eq hx2 ev_rng0) (by decide +kernel) ?_ ?_
    · intro c10
      refine ev_r_iload_n (pc := 42) (k := 1) (v := Int32.ofInt x1) (by decide +kernel) (by exact e5) ?_
      exact ev_r_ireturn (pc := 43) (x := x1) (v := Int32.ofInt x1) (ty := .int) hx1 (by decide +kernel) (by decide +kernel) rfl rfl
    · intro c10
      refine ev_r_iload_n (pc := 15) (k := 2) (v := Int32.ofInt x2) (by decide +kernel) (by exact e6) ?_
      refine ev_r_sipush (pc := 16) (k := 255) (by decide +kernel) (by decide +kernel) ?_
      refine ev_r_iand (pc := 19) (by decide +kernel) ?_
      intro x11 hx11
      refine ev_r_stat (pc := 20) (y := 178) (kind := 2) (mi := 207) (na := 1) (as := [.int (Int32.ofInt x11)]) (rest := []) (encc := ev_oI) (Q := ev_bl) (fun x S1 h => jt_207 d (by omega) Q x11 hx11 s8 x S1 h) (Or.inl rfl) (by decide +kernel) (by decide +kernel) (by decide +kernel) (by decide +kernel) rfl (by (try simp only [ev_sum, ev_nv_cat]); first | done | rfl) ?_
      intro x13 s12 hx13
      replace hx13 := ev_bl_rng hx13
      show ev_w _ _ _ _ _ [.int (Int32.ofInt x13)] _ _ _ _
      refine ev_r_if (pc := 23) (q := .ne) (o := 5) (t := 28) (c := x13 ≠ 0) (by decide +kernel) (ev_k_ne hx13 ev_rng0) (by decide +kernel) ?_ ?_
      · intro c14
        refine ev_r_iinc (pc := 28) (k := 1) (c := 1) (x := x1) (by decide +kernel) (by decide +kernel) (by exact e5) (fun _ => rfl) ?_
        intro x15 hx15
        refine ev_r_iload_n (pc := 31) (k := 2) (v := Int32.ofInt x2) (by decide +kernel) (by exact (ev_l1 e6 (by decide) (by decide))) ?_
        refine ev_r_bipush (pc := 32) (k := 8) (by decide +kernel) (by decide +kernel) ?_
        refine ev_r_iushr (pc := 34) (by decide +kernel) ?_
        intro x16 hx16
        refine ev_r_istore_n (pc := 35) (k := 2) (by decide +kernel) (by decide +kernel) rfl ?_
        refine ev_r_iinc (pc := 36) (k := 3) (c := 1) (x := x3) (by decide +kernel) (by decide +kernel) (by exact (ev_l1 (ev_l1 e7 (by decide) (by decide)) (by decide) (by decide))) (fun _ => rfl) ?_
        intro x17 hx17
        refine ev_r_goto (pc := 39) (o := (-33)) (t := 6) (by decide +kernel) (by decide +kernel) ?_
        exact hK6 x15 hx15 x16 hx16 x17 hx17 s12 _ (by exact (ev_l1 (ev_lk_st1 ev_lk_st1_self (by decide) rfl) (by decide) (by decide))) (by exact (ev_lk_st1 ev_lk_st1_self (by decide) rfl)) (by exact ev_lk_st1_self)
      · intro c14
        refine ev_r_iconst (pc := 26) (k := 0) (by decide +kernel) ?_
        exact ev_r_ireturn (pc := 27) (x := 0) (v := Int32.ofInt 0) (ty := .int) (by decide) (by decide +kernel) (by decide +kernel) rfl rfl
theorem jlt_199_6 (d : Nat) (hd : 2 ≤ d + 1) (Q : Nat)     : ∀ q : Nat, ∀ (x1 : Int) (hx1 : ev_rng x1), ∀ (x2 : Int) (hx2 : ev_rng x2), ∀ (x3 : Int) (hx3 : ev_rng x3), ∀ (s8 : ev_St) (w4 : List (Nat × Value)), ev_lk w4 1 = some (.int (Int32.ofInt x1)) → ev_lk w4 2 = some (.int (Int32.ofInt x2)) → ev_lk w4 3 = some (.int (Int32.ofInt x3)) → ev_w none (ev_Mof 199) d 6 w4 [] s8 (jl_199_6 Q   q x1 x2 x3 s8) ev_eI ev_rng := by
  intro q
  induction q with
  | zero =>
    intro x1 hx1 x2 hx2 x3 hx3 s8 w4 e5 e6 e7
    exact ev_w_none
  | succ q ih => exact jbt_199_6 d hd Q     _ ih
/-- MendBench.countSigns(I)I -/
def jm_199 (Q : Nat) (a0 : Int) (S : ev_St) : Option ((Int) × ev_St) := jl_199_6 Q   Q 0 a0 0 S
theorem jt_199 (d : Nat) (hd : 2 ≤ d) (Q : Nat) (a0 : Int) (ha0 : ev_rng a0) (S : ev_St) (x : Int) (S' : ev_St) (hJ : jm_199 Q a0 S = some (x, S')) : ev_Ref d 199 [.int (Int32.ofInt a0)] S (ev_eI x) S' (ev_rng x) := by
  obtain ⟨d, rfl⟩ : ∃ e, d = e + 1 := ⟨d - 1, by omega⟩
  refine ev_ref_of (P := ev_rng) (lv := [(0, .int (Int32.ofInt a0))]) (by decide +kernel) (by (try simp only [ev_sum, ev_nv_cat]); first | done | rfl) (by (try simp only [lv_args, ev_nv_cat]); first | done | rfl) ?_ x S' hJ
  unfold jm_199
  refine ev_r_iconst (pc := 0) (k := 0) (by decide +kernel) ?_
  refine ev_r_istore_n (pc := 1) (k := 1) (by decide +kernel) (by decide +kernel) rfl ?_
  refine ev_r_iload_n (pc := 2) (k := 0) (v := Int32.ofInt a0) (by decide +kernel) (by exact (ev_lk_st1 (by rfl) (by decide) rfl)) ?_
  refine ev_r_istore_n (pc := 3) (k := 2) (by decide +kernel) (by decide +kernel) rfl ?_
  refine ev_r_iconst (pc := 4) (k := 0) (by decide +kernel) ?_
  refine ev_r_istore_n (pc := 5) (k := 3) (by decide +kernel) (by decide +kernel) rfl ?_
  exact jlt_199_6 d hd Q     Q 0 (by decide) a0 ha0 0 (by decide) S _ (by exact (ev_l1 (ev_lk_st1 ev_lk_st1_self (by decide) rfl) (by decide) (by decide))) (by exact (ev_lk_st1 ev_lk_st1_self (by decide) rfl)) (by exact ev_lk_st1_self)
def jb_166_45 (Q : Nat) (a0 : Int) (x2 : Int)  (K45 : Int → ev_St → Option ((Int ⊕ String) × ev_St)) (x7 : Int) (s13 : ev_St) : Option ((Int ⊕ String) × ev_St) := if x2 ≤ x7 then (ev_b (s13.1 1 1) fun x15 => some ((Sum.inl x15 : Int ⊕ String), s13)) else (ev_ck (8 * x7) fun x16 => ev_b (ev_iushr a0 x16) fun x17 => ev_b (ev_iand x17 255) fun x18 => ev_bd (jm_152 Q 1 x18 s13) fun _ s19 => ev_ck (x7 + 1) fun x20 => K45 x20 s19)
def jl_166_45 (Q : Nat) (a0 : Int) (x2 : Int)  : Nat → Int → ev_St → Option ((Int ⊕ String) × ev_St)
  | 0 => fun _ _ => none
  | q + 1 => jb_166_45 Q a0 x2  (jl_166_45 Q a0 x2  q)
theorem jbt_166_45 (d : Nat) (hd : 6 ≤ d + 1) (Q : Nat) (a0 : Int) (x2 : Int) (ha0 : ev_rng a0) (hx2 : ev_rng x2)   (K45 : Int → ev_St → Option ((Int ⊕ String) × ev_St)) (hK45 : ∀ (x7 : Int) (hx7 : ev_rng x7), ∀ (s13 : ev_St) (w8 : List (Nat × Value)), ev_lk w8 0 = some (.ref 0) → ev_lk w8 1 = some (.int (Int32.ofInt a0)) → ev_lk w8 2 = some (.int (Int32.ofInt x2)) → ev_lk w8 3 = some (.int (Int32.ofInt x7)) → ev_w none (ev_Mof 166) d 45 w8 [] s13 (K45 x7 s13) ev_eX ev_PX) : ∀ (x7 : Int) (hx7 : ev_rng x7), ∀ (s13 : ev_St) (w8 : List (Nat × Value)), ev_lk w8 0 = some (.ref 0) → ev_lk w8 1 = some (.int (Int32.ofInt a0)) → ev_lk w8 2 = some (.int (Int32.ofInt x2)) → ev_lk w8 3 = some (.int (Int32.ofInt x7)) → ev_w none (ev_Mof 166) d 45 w8 [] s13 (jb_166_45 Q a0 x2  K45 x7 s13) ev_eX ev_PX := by
  intro x7 hx7 s13 w8 e9 e10 e11 e12
  unfold jb_166_45
  refine ev_r_iload_n (pc := 45) (k := 3) (v := Int32.ofInt x7) (by decide +kernel) (by exact e12) ?_
  refine ev_r_iload_n (pc := 46) (k := 2) (v := Int32.ofInt x2) (by decide +kernel) (by exact e11) ?_
  refine ev_r_icmp (pc := 47) (q := .ge) (o := 26) (t := 73) (c := x2 ≤ x7) (by decide +kernel) (ev_k_ge hx7 hx2) (by decide +kernel) ?_ ?_
  · intro c14
    refine ev_r_aload_n (pc := 73) (k := 0) (v := .ref 0) trivial (by decide +kernel) (by exact e9) ?_
    refine ev_r_getC (pc := 74) (y := 12) (ci := 12) (f := 0) (fin := 1) (k' := 1) (by decide +kernel) (by decide +kernel) (by exact ev_ob_0) rfl rfl ?_
    refine ev_r_getI (pc := 77) (y := 105) (ci := 10) (f := 1) (fin := 0) (by decide +kernel) (by decide +kernel) (by exact ev_ob_1) rfl ?_
    intro x15 hx15
    exact ev_r_ireturn (pc := 80) (x := (Sum.inl x15 : Int ⊕ String)) (v := Int32.ofInt x15) (ty := .int) hx15 (by decide +kernel) (by decide +kernel) rfl rfl
  · intro c14
    refine ev_r_aload_n (pc := 50) (k := 0) (v := .ref 0) trivial (by decide +kernel) (by exact e9) ?_
    refine ev_r_getC (pc := 51) (y := 12) (ci := 12) (f := 0) (fin := 1) (k' := 1) (by decide +kernel) (by decide +kernel) (by exact ev_ob_0) rfl rfl ?_
    refine ev_r_iload_n (pc := 54) (k := 1) (v := Int32.ofInt a0) (by decide +kernel) (by exact e10) ?_
    refine ev_r_bipush (pc := 55) (k := 8) (by decide +kernel) (by decide +kernel) ?_
    refine ev_r_iload_n (pc := 57) (k := 3) (v := Int32.ofInt x7) (by decide +kernel) (by exact e12) ?_
    refine ev_r_imul (pc := 58) (by decide +kernel) ?_
    intro x16 hx16
    refine ev_r_iushr (pc := 59) (by decide +kernel) ?_
    intro x17 hx17
    refine ev_r_sipush (pc := 60) (k := 255) (by decide +kernel) (by decide +kernel) ?_
    refine ev_r_iand (pc := 63) (by decide +kernel) ?_
    intro x18 hx18
    refine ev_r_virt (pc := 64) (y := 114) (mi := 152) (na := 1) (k := 1) (as := [.int (Int32.ofInt x18)]) (rest := []) (encc := ev_oU) (Q := ev_PU) (fun x S1 h => jt_152 d (by omega) Q 1 x18 ev_ob_1 hx18 s13 x S1 h) (by exact ev_ob_1) (by decide +kernel) (by decide +kernel) (by decide +kernel) (by decide +kernel) rfl (by (try simp only [ev_sum, ev_nv_cat]); first | done | rfl) ?_
    intro _ s19 _
    show ev_w _ _ _ _ _ [] _ _ _ _
    refine ev_r_iinc (pc := 67) (k := 3) (c := 1) (x := x7) (by decide +kernel) (by decide +kernel) (by exact e12) (fun _ => rfl) ?_
    intro x20 hx20
    refine ev_r_goto (pc := 70) (o := (-25)) (t := 45) (by decide +kernel) (by decide +kernel) ?_
    exact hK45 x20 hx20 s19 _ (by exact (ev_l1 e9 (by decide) (by decide))) (by exact (ev_l1 e10 (by decide) (by decide))) (by exact (ev_lk_st1 e11 (by decide) rfl)) (by exact ev_lk_st1_self)
theorem jlt_166_45 (d : Nat) (hd : 6 ≤ d + 1) (Q : Nat) (a0 : Int) (x2 : Int) (ha0 : ev_rng a0) (hx2 : ev_rng x2)   : ∀ q : Nat, ∀ (x7 : Int) (hx7 : ev_rng x7), ∀ (s13 : ev_St) (w8 : List (Nat × Value)), ev_lk w8 0 = some (.ref 0) → ev_lk w8 1 = some (.int (Int32.ofInt a0)) → ev_lk w8 2 = some (.int (Int32.ofInt x2)) → ev_lk w8 3 = some (.int (Int32.ofInt x7)) → ev_w none (ev_Mof 166) d 45 w8 [] s13 (jl_166_45 Q a0 x2  q x7 s13) ev_eX ev_PX := by
  intro q
  induction q with
  | zero =>
    intro x7 hx7 s13 w8 e9 e10 e11 e12
    exact ev_w_none
  | succ q ih => exact jbt_166_45 d hd Q a0 x2 ha0 hx2   _ ih
/-- MendBench.type(I)I -/
def jm_166 (Q : Nat) (a0 : Int) (S : ev_St) : Option ((Int ⊕ String) × ev_St) := ev_bd (jm_199 Q a0 S) fun x2 s1 => if x2 ≠ 0 then (ev_b (s1.1 1 1) fun x4 => ev_ck (x4 + x2) fun x5 => if x5 ≤ 120 then (jl_166_45 Q a0 x2  Q 0 s1) else (some (.inr "java/lang/IllegalStateException", ev_tick s1))) else (some (.inr "java/lang/IllegalArgumentException", ev_tick s1))
theorem jt_166 (d : Nat) (hd : 6 ≤ d) (Q : Nat) (a0 : Int) (ha0 : ev_rng a0) (S : ev_St) (x : Int ⊕ String) (S' : ev_St) (hJ : jm_166 Q a0 S = some (x, S')) : ev_Ref d 166 [.ref 0, .int (Int32.ofInt a0)] S (ev_eX x) S' (ev_PX x) := by
  obtain ⟨d, rfl⟩ : ∃ e, d = e + 1 := ⟨d - 1, by omega⟩
  refine ev_ref_of (P := ev_PX) (lv := [(0, .ref 0), (1, .int (Int32.ofInt a0))]) (by decide +kernel) (by (try simp only [ev_sum, ev_nv_cat]); first | done | rfl) (by (try simp only [lv_args, ev_nv_cat]); first | done | rfl) ?_ x S' hJ
  unfold jm_166
  refine ev_r_iload_n (pc := 0) (k := 1) (v := Int32.ofInt a0) (by decide +kernel) (by rfl) ?_
  refine ev_r_stat (pc := 1) (y := 94) (kind := 2) (mi := 199) (na := 1) (as := [.int (Int32.ofInt a0)]) (rest := []) (encc := ev_oI) (Q := ev_rng) (fun x S1 h => jt_199 d (by omega) Q a0 ha0 S x S1 h) (Or.inl rfl) (by decide +kernel) (by decide +kernel) (by decide +kernel) (by decide +kernel) rfl (by (try simp only [ev_sum, ev_nv_cat]); first | done | rfl) ?_
  intro x2 s1 hx2
  show ev_w _ _ _ _ _ [.int (Int32.ofInt x2)] _ _ _ _
  refine ev_r_istore_n (pc := 4) (k := 2) (by decide +kernel) (by decide +kernel) rfl ?_
  refine ev_r_iload_n (pc := 5) (k := 2) (v := Int32.ofInt x2) (by decide +kernel) (by exact ev_lk_st1_self) ?_
  refine ev_r_if (pc := 6) (q := .ne) (o := 13) (t := 19) (c := x2 ≠ 0) (by decide +kernel) (ev_k_ne hx2 ev_rng0) (by decide +kernel) ?_ ?_
  · intro c3
    refine ev_r_aload_n (pc := 19) (k := 0) (v := .ref 0) trivial (by decide +kernel) (by exact (ev_l1 (by rfl) (by decide) (by decide))) ?_
    refine ev_r_getC (pc := 20) (y := 12) (ci := 12) (f := 0) (fin := 1) (k' := 1) (by decide +kernel) (by decide +kernel) (by exact ev_ob_0) rfl rfl ?_
    refine ev_r_getI (pc := 23) (y := 105) (ci := 10) (f := 1) (fin := 0) (by decide +kernel) (by decide +kernel) (by exact ev_ob_1) rfl ?_
    intro x4 hx4
    refine ev_r_iload_n (pc := 26) (k := 2) (v := Int32.ofInt x2) (by decide +kernel) (by exact ev_lk_st1_self) ?_
    refine ev_r_iadd (pc := 27) (by decide +kernel) ?_
    intro x5 hx5
    refine ev_r_bipush (pc := 28) (k := 120) (by decide +kernel) (by decide +kernel) ?_
    refine ev_r_icmp (pc := 30) (q := .le) (o := 13) (t := 43) (c := x5 ≤ 120) (by decide +kernel) (ev_k_le hx5 (by decide)) (by decide +kernel) ?_ ?_
    · intro c6
      refine ev_r_iconst (pc := 43) (k := 0) (by decide +kernel) ?_
      refine ev_r_istore_n (pc := 44) (k := 3) (by decide +kernel) (by decide +kernel) rfl ?_
      exact jlt_166_45 d hd Q a0 x2 ha0 hx2   Q 0 (by decide) s1 _ (by exact (ev_l1 (ev_l1 (by rfl) (by decide) (by decide)) (by decide) (by decide))) (by exact (ev_l1 (ev_lk_st1 (by rfl) (by decide) rfl) (by decide) (by decide))) (by exact (ev_lk_st1 ev_lk_st1_self (by decide) rfl)) (by exact ev_lk_st1_self)
    · intro c6
      exact ev_r_throw (pc := 33) (x := (Sum.inr "java/lang/IllegalStateException" : Int ⊕ String)) (y := 109) (E := "java/lang/IllegalStateException") trivial (by decide +kernel) (by decide +kernel) (by decide +kernel) (Nat.ble_eq.mpr (by omega)) rfl
  · intro c3
    exact ev_r_throw (pc := 9) (x := (Sum.inr "java/lang/IllegalArgumentException" : Int ⊕ String)) (y := 98) (E := "java/lang/IllegalArgumentException") trivial (by decide +kernel) (by decide +kernel) (by decide +kernel) (Nat.ble_eq.mpr (by omega)) rfl
/-- MendBench.clear()I -/
def jm_167 (Q : Nat)  (S : ev_St) : Option ((Int) × ev_St) := ev_b (S.1 1 1) fun x1 => ev_b (ev_pI S 1 1 0) fun s2 => some (x1, s2)
theorem jt_167 (d : Nat) (hd : 1 ≤ d) (Q : Nat)   (S : ev_St) (x : Int) (S' : ev_St) (hJ : jm_167 Q  S = some (x, S')) : ev_Ref d 167 [.ref 0] S (ev_eI x) S' (ev_rng x) := by
  obtain ⟨d, rfl⟩ : ∃ e, d = e + 1 := ⟨d - 1, by omega⟩
  refine ev_ref_of (P := ev_rng) (lv := [(0, .ref 0)]) (by decide +kernel) (by (try simp only [ev_sum, ev_nv_cat]); first | done | rfl) (by (try simp only [lv_args, ev_nv_cat]); first | done | rfl) ?_ x S' hJ
  unfold jm_167
  refine ev_r_aload_n (pc := 0) (k := 0) (v := .ref 0) trivial (by decide +kernel) (by rfl) ?_
  refine ev_r_getC (pc := 1) (y := 12) (ci := 12) (f := 0) (fin := 1) (k' := 1) (by decide +kernel) (by decide +kernel) (by exact ev_ob_0) rfl rfl ?_
  refine ev_r_getI (pc := 4) (y := 105) (ci := 10) (f := 1) (fin := 0) (by decide +kernel) (by decide +kernel) (by exact ev_ob_1) rfl ?_
  intro x1 hx1
  refine ev_r_istore_n (pc := 7) (k := 1) (by decide +kernel) (by decide +kernel) rfl ?_
  refine ev_r_aload_n (pc := 8) (k := 0) (v := .ref 0) trivial (by decide +kernel) (by exact (ev_lk_st1 (by rfl) (by decide) rfl)) ?_
  refine ev_r_getC (pc := 9) (y := 12) (ci := 12) (f := 0) (fin := 1) (k' := 1) (by decide +kernel) (by decide +kernel) (by exact ev_ob_0) rfl rfl ?_
  refine ev_r_iconst (pc := 12) (k := 0) (by decide +kernel) ?_
  refine ev_r_putI (pc := 13) (y := 105) (ci := 10) (f := 1) (by decide) (by decide +kernel) (by decide +kernel) (by exact ev_ob_1) rfl rfl ?_
  intro s2
  refine ev_r_iload_n (pc := 16) (k := 1) (v := Int32.ofInt x1) (by decide +kernel) (by exact ev_lk_st1_self) ?_
  exact ev_r_ireturn (pc := 17) (x := x1) (v := Int32.ofInt x1) (ty := .int) hx1 (by decide +kernel) (by decide +kernel) rfl rfl
/-- MendBench.part(I)I -/
def jm_168 (Q : Nat) (a0 : Int) (S : ev_St) : Option ((Int ⊕ String) × ev_St) := ev_bd (jm_209 Q a0 S) fun x2 s1 => if x2 ≠ 0 then (ev_bd (jm_83 Q ((1 + 1)) ((232 + 1)) a0 s1) fun x5 s4 => if x5 ≠ 0 then (ev_bd (jm_82 Q a0 ((1 + 1)) s4) fun _ s7 => ev_b (ev_pI s7 1 1 0) fun s8 => ev_b (s8.1 3 14) fun x9 => some ((Sum.inl x9 : Int ⊕ String), s8)) else (some ((Sum.inl ((-1)) : Int ⊕ String), s4))) else (some (.inr "java/lang/IllegalArgumentException", ev_tick s1))
theorem jt_168 (d : Nat) (hd : 8 ≤ d) (Q : Nat) (a0 : Int) (ha0 : ev_rng a0) (S : ev_St) (x : Int ⊕ String) (S' : ev_St) (hJ : jm_168 Q a0 S = some (x, S')) : ev_Ref d 168 [.ref 0, .int (Int32.ofInt a0)] S (ev_eX x) S' (ev_PX x) := by
  obtain ⟨d, rfl⟩ : ∃ e, d = e + 1 := ⟨d - 1, by omega⟩
  refine ev_ref_of (P := ev_PX) (lv := [(0, .ref 0), (1, .int (Int32.ofInt a0))]) (by decide +kernel) (by (try simp only [ev_sum, ev_nv_cat]); first | done | rfl) (by (try simp only [lv_args, ev_nv_cat]); first | done | rfl) ?_ x S' hJ
  unfold jm_168
  refine ev_r_iload_n (pc := 0) (k := 1) (v := Int32.ofInt a0) (by decide +kernel) (by rfl) ?_
  refine ev_r_stat (pc := 1) (y := 117) (kind := 2) (mi := 209) (na := 1) (as := [.int (Int32.ofInt a0)]) (rest := []) (encc := ev_oI) (Q := ev_bl) (fun x S1 h => jt_209 d (by omega) Q a0 ha0 S x S1 h) (Or.inl rfl) (by decide +kernel) (by decide +kernel) (by decide +kernel) (by decide +kernel) rfl (by (try simp only [ev_sum, ev_nv_cat]); first | done | rfl) ?_
  intro x2 s1 hx2
  replace hx2 := ev_bl_rng hx2
  show ev_w _ _ _ _ _ [.int (Int32.ofInt x2)] _ _ _ _
  refine ev_r_if (pc := 4) (q := .ne) (o := 13) (t := 17) (c := x2 ≠ 0) (by decide +kernel) (ev_k_ne hx2 ev_rng0) (by decide +kernel) ?_ ?_
  · intro c3
    refine ev_r_aload_n (pc := 17) (k := 0) (v := .ref 0) trivial (by decide +kernel) (by rfl) ?_
    refine ev_r_getC (pc := 18) (y := 19) (ci := 12) (f := 1) (fin := 1) (k' := 3) (by decide +kernel) (by decide +kernel) (by exact ev_ob_0) rfl rfl ?_
    refine ev_r_aload_n (pc := 21) (k := 0) (v := .ref 0) trivial (by decide +kernel) (by rfl) ?_
    refine ev_r_getC (pc := 22) (y := 12) (ci := 12) (f := 0) (fin := 1) (k' := 1) (by decide +kernel) (by decide +kernel) (by exact ev_ob_0) rfl rfl ?_
    refine ev_r_aload_n (pc := 25) (k := 0) (v := .ref 0) trivial (by decide +kernel) (by rfl) ?_
    refine ev_r_getC (pc := 26) (y := 33) (ci := 12) (f := 3) (fin := 1) (k' := 232) (by decide +kernel) (by decide +kernel) (by exact ev_ob_0) rfl rfl ?_
    refine ev_r_iload_n (pc := 29) (k := 1) (v := Int32.ofInt a0) (by decide +kernel) (by rfl) ?_
    refine ev_r_virt (pc := 30) (y := 123) (mi := 83) (na := 3) (k := 3) (as := [ev_nv ((1 + 1)), ev_nv ((232 + 1)), .int (Int32.ofInt a0)]) (rest := []) (encc := ev_oI) (Q := ev_bl) (fun x S1 h => jt_83 d (by omega) Q ((1 + 1)) ((232 + 1)) a0 (by exact (Or.inr ev_ob_1)) (by exact (Or.inr ev_ob_232)) ha0 s1 x S1 h) (by exact ev_ob_3) (by decide +kernel) (by decide +kernel) (by decide +kernel) (by decide +kernel) rfl (by (try simp only [ev_sum, ev_nv_cat]); first | done | rfl) ?_
    intro x5 s4 hx5
    replace hx5 := ev_bl_rng hx5
    show ev_w _ _ _ _ _ [.int (Int32.ofInt x5)] _ _ _ _
    refine ev_r_if (pc := 33) (q := .ne) (o := 5) (t := 38) (c := x5 ≠ 0) (by decide +kernel) (ev_k_ne hx5 ev_rng0) (by decide +kernel) ?_ ?_
    · intro c6
      refine ev_r_aload_n (pc := 38) (k := 0) (v := .ref 0) trivial (by decide +kernel) (by rfl) ?_
      refine ev_r_getC (pc := 39) (y := 19) (ci := 12) (f := 1) (fin := 1) (k' := 3) (by decide +kernel) (by decide +kernel) (by exact ev_ob_0) rfl rfl ?_
      refine ev_r_iload_n (pc := 42) (k := 1) (v := Int32.ofInt a0) (by decide +kernel) (by rfl) ?_
      refine ev_r_aload_n (pc := 43) (k := 0) (v := .ref 0) trivial (by decide +kernel) (by rfl) ?_
      refine ev_r_getC (pc := 44) (y := 12) (ci := 12) (f := 0) (fin := 1) (k' := 1) (by decide +kernel) (by decide +kernel) (by exact ev_ob_0) rfl rfl ?_
      refine ev_r_virt (pc := 47) (y := 127) (mi := 82) (na := 2) (k := 3) (as := [.int (Int32.ofInt a0), ev_nv ((1 + 1))]) (rest := []) (encc := ev_oU) (Q := ev_PU) (fun x S1 h => jt_82 d (by omega) Q a0 ((1 + 1)) ha0 (by exact (Or.inr ev_ob_1)) s4 x S1 h) (by exact ev_ob_3) (by decide +kernel) (by decide +kernel) (by decide +kernel) (by decide +kernel) rfl (by (try simp only [ev_sum, ev_nv_cat]); first | done | rfl) ?_
      intro _ s7 _
      show ev_w _ _ _ _ _ [] _ _ _ _
      refine ev_r_aload_n (pc := 50) (k := 0) (v := .ref 0) trivial (by decide +kernel) (by rfl) ?_
      refine ev_r_getC (pc := 51) (y := 12) (ci := 12) (f := 0) (fin := 1) (k' := 1) (by decide +kernel) (by decide +kernel) (by exact ev_ob_0) rfl rfl ?_
      refine ev_r_iconst (pc := 54) (k := 0) (by decide +kernel) ?_
      refine ev_r_putI (pc := 55) (y := 105) (ci := 10) (f := 1) (by decide) (by decide +kernel) (by decide +kernel) (by exact ev_ob_1) rfl rfl ?_
      intro s8
      refine ev_r_aload_n (pc := 58) (k := 0) (v := .ref 0) trivial (by decide +kernel) (by rfl) ?_
      refine ev_r_getC (pc := 59) (y := 19) (ci := 12) (f := 1) (fin := 1) (k' := 3) (by decide +kernel) (by decide +kernel) (by exact ev_ob_0) rfl rfl ?_
      refine ev_r_getI (pc := 62) (y := 131) (ci := 7) (f := 14) (fin := 0) (by decide +kernel) (by decide +kernel) (by exact ev_ob_3) rfl ?_
      intro x9 hx9
      exact ev_r_ireturn (pc := 65) (x := (Sum.inl x9 : Int ⊕ String)) (v := Int32.ofInt x9) (ty := .int) hx9 (by decide +kernel) (by decide +kernel) rfl rfl
    · intro c6
      refine ev_r_iconst (pc := 36) (k := -1) (by decide +kernel) ?_
      exact ev_r_ireturn (pc := 37) (x := (Sum.inl ((-1)) : Int ⊕ String)) (v := Int32.ofInt ((-1))) (ty := .int) (show ev_rng ((-1)) by decide) (by decide +kernel) (by decide +kernel) rfl rfl
  · intro c3
    exact ev_r_throw (pc := 7) (x := (Sum.inr "java/lang/IllegalArgumentException" : Int ⊕ String)) (y := 98) (E := "java/lang/IllegalArgumentException") trivial (by decide +kernel) (by decide +kernel) (by decide +kernel) (Nat.ble_eq.mpr (by omega)) rfl
/-- MendBench.pattern()I -/
def jm_169 (Q : Nat)  (S : ev_St) : Option ((Int ⊕ String) × ev_St) := ev_b (S.1 0 5) fun x1 => if x1 < 12 then (ev_b (S.1 0 5) fun x3 => ev_if ((0 : Int) ≤ x3 ∧ x3 < (12 : Int)) (ev_b (313 + 20 * Int.toNat x3) fun _ => ev_bd (jm_83 Q ((1 + 1)) (((313 + 20 * Int.toNat x3) + 1)) ((-1)) S) fun x7 s6 => if x7 ≠ 0 then (ev_bd (jm_29 Q (((313 + 20 * Int.toNat x3) + 1)) s6) fun _ s9 => ev_b (ev_pI s9 1 1 0) fun s10 => ev_b (s10.1 0 5) fun x11 => ev_ck (x11 + 1) fun x12 => ev_b (ev_pI s10 0 5 x12) fun s13 => ev_b (s13.1 0 5) fun x14 => ev_ck (x14 - 1) fun x15 => some ((Sum.inl x15 : Int ⊕ String), s13)) else (some ((Sum.inl ((-1)) : Int ⊕ String), s6)))) else (some (.inr "java/lang/IllegalStateException", ev_tick S))
theorem jt_169 (d : Nat) (hd : 8 ≤ d) (Q : Nat)   (S : ev_St) (x : Int ⊕ String) (S' : ev_St) (hJ : jm_169 Q  S = some (x, S')) : ev_Ref d 169 [.ref 0] S (ev_eX x) S' (ev_PX x) := by
  obtain ⟨d, rfl⟩ : ∃ e, d = e + 1 := ⟨d - 1, by omega⟩
  refine ev_ref_of (P := ev_PX) (lv := [(0, .ref 0)]) (by decide +kernel) (by (try simp only [ev_sum, ev_nv_cat]); first | done | rfl) (by (try simp only [lv_args, ev_nv_cat]); first | done | rfl) ?_ x S' hJ
  unfold jm_169
  refine ev_r_aload_n (pc := 0) (k := 0) (v := .ref 0) trivial (by decide +kernel) (by rfl) ?_
  refine ev_r_getI (pc := 1) (y := 134) (ci := 12) (f := 5) (fin := 0) (by decide +kernel) (by decide +kernel) (by exact ev_ob_0) rfl ?_
  intro x1 hx1
  refine ev_r_bipush (pc := 4) (k := 12) (by decide +kernel) (by decide +kernel) ?_
  refine ev_r_icmp (pc := 6) (q := .lt) (o := 13) (t := 19) (c := x1 < 12) (by decide +kernel) (ev_k_lt hx1 (by decide)) (by decide +kernel) ?_ ?_
  · intro c2
    refine ev_r_aload_n (pc := 19) (k := 0) (v := .ref 0) trivial (by decide +kernel) (by rfl) ?_
    refine ev_r_getC (pc := 20) (y := 37) (ci := 12) (f := 4) (fin := 1) (k' := 252) (by decide +kernel) (by decide +kernel) (by exact ev_ob_0) rfl rfl ?_
    refine ev_r_aload_n (pc := 23) (k := 0) (v := .ref 0) trivial (by decide +kernel) (by rfl) ?_
    refine ev_r_getI (pc := 24) (y := 134) (ci := 12) (f := 5) (fin := 0) (by decide +kernel) (by decide +kernel) (by exact ev_ob_0) rfl ?_
    intro x3 hx3
    refine ev_r_aald (pc := 27) (N := 12) (b := 313) (c := 20) (C := "MendBench$Pattern") hx3 (by decide +kernel) (by decide +kernel) ?_
    intro c4
    refine ev_r_astore_n (pc := 28) (k := 1) trivial (by decide +kernel) (by decide +kernel) rfl ?_
    refine ev_r_aload_n (pc := 29) (k := 0) (v := .ref 0) trivial (by decide +kernel) (by exact (ev_lk_st1 (by rfl) (by decide) rfl)) ?_
    refine ev_r_getC (pc := 30) (y := 19) (ci := 12) (f := 1) (fin := 1) (k' := 3) (by decide +kernel) (by decide +kernel) (by exact ev_ob_0) rfl rfl ?_
    refine ev_r_aload_n (pc := 33) (k := 0) (v := .ref 0) trivial (by decide +kernel) (by exact (ev_lk_st1 (by rfl) (by decide) rfl)) ?_
    refine ev_r_getC (pc := 34) (y := 12) (ci := 12) (f := 0) (fin := 1) (k' := 1) (by decide +kernel) (by decide +kernel) (by exact ev_ob_0) rfl rfl ?_
    refine ev_r_aload_n (pc := 37) (k := 1) (v := .ref ((313 + 20 * Int.toNat x3))) trivial (by decide +kernel) (by exact ev_lk_st1_self) ?_
    refine ev_r_iconst (pc := 38) (k := -1) (by decide +kernel) ?_
    refine ev_r_virt (pc := 39) (y := 123) (mi := 83) (na := 3) (k := 3) (as := [ev_nv ((1 + 1)), ev_nv (((313 + 20 * Int.toNat x3) + 1)), .int (Int32.ofInt ((-1)))]) (rest := []) (encc := ev_oI) (Q := ev_bl) (fun x S1 h => jt_83 d (by omega) Q ((1 + 1)) (((313 + 20 * Int.toNat x3) + 1)) ((-1)) (by exact (Or.inr ev_ob_1)) (by exact (Or.inr (ev_el_252 c4))) (by decide) S x S1 h) (by exact ev_ob_3) (by decide +kernel) (by decide +kernel) (by decide +kernel) (by decide +kernel) rfl (by (try simp only [ev_sum, ev_nv_cat]); first | done | rfl) ?_
    intro x7 s6 hx7
    replace hx7 := ev_bl_rng hx7
    show ev_w _ _ _ _ _ [.int (Int32.ofInt x7)] _ _ _ _
    refine ev_r_if (pc := 42) (q := .ne) (o := 5) (t := 47) (c := x7 ≠ 0) (by decide +kernel) (ev_k_ne hx7 ev_rng0) (by decide +kernel) ?_ ?_
    · intro c8
      refine ev_r_aload_n (pc := 47) (k := 0) (v := .ref 0) trivial (by decide +kernel) (by exact (ev_lk_st1 (by rfl) (by decide) rfl)) ?_
      refine ev_r_getC (pc := 48) (y := 26) (ci := 12) (f := 2) (fin := 1) (k' := 221) (by decide +kernel) (by decide +kernel) (by exact ev_ob_0) rfl rfl ?_
      refine ev_r_aload_n (pc := 51) (k := 1) (v := .ref ((313 + 20 * Int.toNat x3))) trivial (by decide +kernel) (by exact ev_lk_st1_self) ?_
      refine ev_r_virt (pc := 52) (y := 139) (mi := 29) (na := 1) (k := 221) (as := [ev_nv (((313 + 20 * Int.toNat x3) + 1))]) (rest := []) (encc := ev_oU) (Q := ev_PU) (fun x S1 h => jt_29 d (by omega) Q (((313 + 20 * Int.toNat x3) + 1)) (by exact (Or.inr (ev_el_252 c4))) s6 x S1 h) (by exact ev_ob_221) (by decide +kernel) (by decide +kernel) (by decide +kernel) (by decide +kernel) rfl (by (try simp only [ev_sum, ev_nv_cat]); first | done | rfl) ?_
      intro _ s9 _
      show ev_w _ _ _ _ _ [] _ _ _ _
      refine ev_r_aload_n (pc := 55) (k := 0) (v := .ref 0) trivial (by decide +kernel) (by exact (ev_lk_st1 (by rfl) (by decide) rfl)) ?_
      refine ev_r_getC (pc := 56) (y := 12) (ci := 12) (f := 0) (fin := 1) (k' := 1) (by decide +kernel) (by decide +kernel) (by exact ev_ob_0) rfl rfl ?_
      refine ev_r_iconst (pc := 59) (k := 0) (by decide +kernel) ?_
      refine ev_r_putI (pc := 60) (y := 105) (ci := 10) (f := 1) (by decide) (by decide +kernel) (by decide +kernel) (by exact ev_ob_1) rfl rfl ?_
      intro s10
      refine ev_r_aload_n (pc := 63) (k := 0) (v := .ref 0) trivial (by decide +kernel) (by exact (ev_lk_st1 (by rfl) (by decide) rfl)) ?_
      refine ev_r_dup (pc := 64) rfl (by decide +kernel) ?_
      refine ev_r_getI (pc := 65) (y := 134) (ci := 12) (f := 5) (fin := 0) (by decide +kernel) (by decide +kernel) (by exact ev_ob_0) rfl ?_
      intro x11 hx11
      refine ev_r_iconst (pc := 68) (k := 1) (by decide +kernel) ?_
      refine ev_r_iadd (pc := 69) (by decide +kernel) ?_
      intro x12 hx12
      refine ev_r_putI (pc := 70) (y := 134) (ci := 12) (f := 5) hx12 (by decide +kernel) (by decide +kernel) (by exact ev_ob_0) rfl rfl ?_
      intro s13
      refine ev_r_aload_n (pc := 73) (k := 0) (v := .ref 0) trivial (by decide +kernel) (by exact (ev_lk_st1 (by rfl) (by decide) rfl)) ?_
      refine ev_r_getI (pc := 74) (y := 134) (ci := 12) (f := 5) (fin := 0) (by decide +kernel) (by decide +kernel) (by exact ev_ob_0) rfl ?_
      intro x14 hx14
      refine ev_r_iconst (pc := 77) (k := 1) (by decide +kernel) ?_
      refine ev_r_isub (pc := 78) (by decide +kernel) ?_
      intro x15 hx15
      exact ev_r_ireturn (pc := 79) (x := (Sum.inl x15 : Int ⊕ String)) (v := Int32.ofInt x15) (ty := .int) hx15 (by decide +kernel) (by decide +kernel) rfl rfl
    · intro c8
      refine ev_r_iconst (pc := 45) (k := -1) (by decide +kernel) ?_
      exact ev_r_ireturn (pc := 46) (x := (Sum.inl ((-1)) : Int ⊕ String)) (v := Int32.ofInt ((-1))) (ty := .int) (show ev_rng ((-1)) by decide) (by decide +kernel) (by decide +kernel) rfl rfl
  · intro c2
    exact ev_r_throw (pc := 9) (x := (Sum.inr "java/lang/IllegalStateException" : Int ⊕ String)) (y := 109) (E := "java/lang/IllegalStateException") trivial (by decide +kernel) (by decide +kernel) (by decide +kernel) (Nat.ble_eq.mpr (by omega)) rfl
/-- MendBench.template()I -/
def jm_170 (Q : Nat)  (S : ev_St) : Option ((Int ⊕ String) × ev_St) := ev_b (S.1 0 7) fun x1 => if x1 < 8 then (ev_bd (jm_48 Q ((1 + 1)) S) fun x4 s3 => if x4 ≠ 0 then (ev_b (s3.1 0 7) fun x6 => ev_if ((0 : Int) ≤ x6 ∧ x6 < (8 : Int)) (ev_b (553 + 2 * Int.toNat x6) fun _ => ev_bd (jm_153 Q ((553 + 2 * Int.toNat x6)) ((1 + 1)) s3) fun _ s9 => ev_b (ev_pI s9 1 1 0) fun s10 => ev_b (s10.1 0 7) fun x11 => ev_ck (x11 + 1) fun x12 => ev_b (ev_pI s10 0 7 x12) fun s13 => ev_b (s13.1 0 7) fun x14 => ev_ck (x14 - 1) fun x15 => some ((Sum.inl x15 : Int ⊕ String), s13))) else (some ((Sum.inl ((-1)) : Int ⊕ String), s3))) else (some (.inr "java/lang/IllegalStateException", ev_tick S))
theorem jt_170 (d : Nat) (hd : 6 ≤ d) (Q : Nat)   (S : ev_St) (x : Int ⊕ String) (S' : ev_St) (hJ : jm_170 Q  S = some (x, S')) : ev_Ref d 170 [.ref 0] S (ev_eX x) S' (ev_PX x) := by
  obtain ⟨d, rfl⟩ : ∃ e, d = e + 1 := ⟨d - 1, by omega⟩
  refine ev_ref_of (P := ev_PX) (lv := [(0, .ref 0)]) (by decide +kernel) (by (try simp only [ev_sum, ev_nv_cat]); first | done | rfl) (by (try simp only [lv_args, ev_nv_cat]); first | done | rfl) ?_ x S' hJ
  unfold jm_170
  refine ev_r_aload_n (pc := 0) (k := 0) (v := .ref 0) trivial (by decide +kernel) (by rfl) ?_
  refine ev_r_getI (pc := 1) (y := 143) (ci := 12) (f := 7) (fin := 0) (by decide +kernel) (by decide +kernel) (by exact ev_ob_0) rfl ?_
  intro x1 hx1
  refine ev_r_bipush (pc := 4) (k := 8) (by decide +kernel) (by decide +kernel) ?_
  refine ev_r_icmp (pc := 6) (q := .lt) (o := 13) (t := 19) (c := x1 < 8) (by decide +kernel) (ev_k_lt hx1 (by decide)) (by decide +kernel) ?_ ?_
  · intro c2
    refine ev_r_aload_n (pc := 19) (k := 0) (v := .ref 0) trivial (by decide +kernel) (by rfl) ?_
    refine ev_r_getC (pc := 20) (y := 12) (ci := 12) (f := 0) (fin := 1) (k' := 1) (by decide +kernel) (by decide +kernel) (by exact ev_ob_0) rfl rfl ?_
    refine ev_r_stat (pc := 23) (y := 148) (kind := 2) (mi := 48) (na := 1) (as := [ev_nv ((1 + 1))]) (rest := []) (encc := ev_oI) (Q := ev_bl) (fun x S1 h => jt_48 d (by omega) Q ((1 + 1)) (by exact (Or.inr ev_ob_1)) S x S1 h) (Or.inl rfl) (by decide +kernel) (by decide +kernel) (by decide +kernel) (by decide +kernel) rfl (by (try simp only [ev_sum, ev_nv_cat]); first | done | rfl) ?_
    intro x4 s3 hx4
    replace hx4 := ev_bl_rng hx4
    show ev_w _ _ _ _ _ [.int (Int32.ofInt x4)] _ _ _ _
    refine ev_r_if (pc := 26) (q := .ne) (o := 5) (t := 31) (c := x4 ≠ 0) (by decide +kernel) (ev_k_ne hx4 ev_rng0) (by decide +kernel) ?_ ?_
    · intro c5
      refine ev_r_aload_n (pc := 31) (k := 0) (v := .ref 0) trivial (by decide +kernel) (by rfl) ?_
      refine ev_r_getC (pc := 32) (y := 41) (ci := 12) (f := 6) (fin := 1) (k' := 253) (by decide +kernel) (by decide +kernel) (by exact ev_ob_0) rfl rfl ?_
      refine ev_r_aload_n (pc := 35) (k := 0) (v := .ref 0) trivial (by decide +kernel) (by rfl) ?_
      refine ev_r_getI (pc := 36) (y := 143) (ci := 12) (f := 7) (fin := 0) (by decide +kernel) (by decide +kernel) (by exact ev_ob_0) rfl ?_
      intro x6 hx6
      refine ev_r_aald (pc := 39) (N := 8) (b := 553) (c := 2) (C := "MendBench$Text") hx6 (by decide +kernel) (by decide +kernel) ?_
      intro c7
      refine ev_r_aload_n (pc := 40) (k := 0) (v := .ref 0) trivial (by decide +kernel) (by rfl) ?_
      refine ev_r_getC (pc := 41) (y := 12) (ci := 12) (f := 0) (fin := 1) (k' := 1) (by decide +kernel) (by decide +kernel) (by exact ev_ob_0) rfl rfl ?_
      refine ev_r_virt (pc := 44) (y := 152) (mi := 153) (na := 1) (k := (553 + 2 * Int.toNat x6)) (as := [ev_nv ((1 + 1))]) (rest := []) (encc := ev_oU) (Q := ev_PU) (fun x S1 h => jt_153 d (by omega) Q ((553 + 2 * Int.toNat x6)) ((1 + 1)) (ev_el_253 c7) (by exact (Or.inr ev_ob_1)) s3 x S1 h) (by exact (ev_el_253 c7)) (by decide +kernel) (by decide +kernel) (by decide +kernel) (by decide +kernel) rfl (by (try simp only [ev_sum, ev_nv_cat]); first | done | rfl) ?_
      intro _ s9 _
      show ev_w _ _ _ _ _ [] _ _ _ _
      refine ev_r_aload_n (pc := 47) (k := 0) (v := .ref 0) trivial (by decide +kernel) (by rfl) ?_
      refine ev_r_getC (pc := 48) (y := 12) (ci := 12) (f := 0) (fin := 1) (k' := 1) (by decide +kernel) (by decide +kernel) (by exact ev_ob_0) rfl rfl ?_
      refine ev_r_iconst (pc := 51) (k := 0) (by decide +kernel) ?_
      refine ev_r_putI (pc := 52) (y := 105) (ci := 10) (f := 1) (by decide) (by decide +kernel) (by decide +kernel) (by exact ev_ob_1) rfl rfl ?_
      intro s10
      refine ev_r_aload_n (pc := 55) (k := 0) (v := .ref 0) trivial (by decide +kernel) (by rfl) ?_
      refine ev_r_dup (pc := 56) rfl (by decide +kernel) ?_
      refine ev_r_getI (pc := 57) (y := 143) (ci := 12) (f := 7) (fin := 0) (by decide +kernel) (by decide +kernel) (by exact ev_ob_0) rfl ?_
      intro x11 hx11
      refine ev_r_iconst (pc := 60) (k := 1) (by decide +kernel) ?_
      refine ev_r_iadd (pc := 61) (by decide +kernel) ?_
      intro x12 hx12
      refine ev_r_putI (pc := 62) (y := 143) (ci := 12) (f := 7) hx12 (by decide +kernel) (by decide +kernel) (by exact ev_ob_0) rfl rfl ?_
      intro s13
      refine ev_r_aload_n (pc := 65) (k := 0) (v := .ref 0) trivial (by decide +kernel) (by rfl) ?_
      refine ev_r_getI (pc := 66) (y := 143) (ci := 12) (f := 7) (fin := 0) (by decide +kernel) (by decide +kernel) (by exact ev_ob_0) rfl ?_
      intro x14 hx14
      refine ev_r_iconst (pc := 69) (k := 1) (by decide +kernel) ?_
      refine ev_r_isub (pc := 70) (by decide +kernel) ?_
      intro x15 hx15
      exact ev_r_ireturn (pc := 71) (x := (Sum.inl x15 : Int ⊕ String)) (v := Int32.ofInt x15) (ty := .int) hx15 (by decide +kernel) (by decide +kernel) rfl rfl
    · intro c5
      refine ev_r_iconst (pc := 29) (k := -1) (by decide +kernel) ?_
      exact ev_r_ireturn (pc := 30) (x := (Sum.inl ((-1)) : Int ⊕ String)) (v := Int32.ofInt ((-1))) (ty := .int) (show ev_rng ((-1)) by decide) (by decide +kernel) (by decide +kernel) rfl rfl
  · intro c2
    exact ev_r_throw (pc := 9) (x := (Sum.inr "java/lang/IllegalStateException" : Int ⊕ String)) (y := 109) (E := "java/lang/IllegalStateException") trivial (by decide +kernel) (by decide +kernel) (by decide +kernel) (Nat.ble_eq.mpr (by omega)) rfl
/-- MendBench.patternAt(I)LMendBench$Pattern; -/
def jm_200 (Q : Nat) (a0 : Int) (S : ev_St) : Option ((Nat) × ev_St) := if a0 < 0 then (some (0, S)) else (ev_b (S.1 0 5) fun x2 => if x2 ≤ a0 then (some (0, S)) else (if 12 ≤ a0 then (some (0, S)) else (ev_if ((0 : Int) ≤ a0 ∧ a0 < (12 : Int)) (ev_b (313 + 20 * Int.toNat a0) fun _ => some (((313 + 20 * Int.toNat a0)) + 1, S)))))
theorem jt_200 (d : Nat) (hd : 1 ≤ d) (Q : Nat) (a0 : Int) (ha0 : ev_rng a0) (S : ev_St) (x : Nat) (S' : ev_St) (hJ : jm_200 Q a0 S = some (x, S')) : ev_Ref d 200 [.ref 0, .int (Int32.ofInt a0)] S (ev_eR x) S' ((fun r => r = 0 ∨ ev_isOb (r - 1) 5 = true) x) := by
  obtain ⟨d, rfl⟩ : ∃ e, d = e + 1 := ⟨d - 1, by omega⟩
  refine ev_ref_of (P := (fun r => r = 0 ∨ ev_isOb (r - 1) 5 = true)) (lv := [(0, .ref 0), (1, .int (Int32.ofInt a0))]) (by decide +kernel) (by (try simp only [ev_sum, ev_nv_cat]); first | done | rfl) (by (try simp only [lv_args, ev_nv_cat]); first | done | rfl) ?_ x S' hJ
  unfold jm_200
  refine ev_r_iload_n (pc := 0) (k := 1) (v := Int32.ofInt a0) (by decide +kernel) (by rfl) ?_
  refine ev_r_if (pc := 1) (q := .lt) (o := 26) (t := 27) (c := a0 < 0) (by decide +kernel) (ev_k_lt ha0 ev_rng0) (by decide +kernel) ?_ ?_
  · intro c1
    refine ev_r_null (pc := 27) (by decide +kernel) ?_
    exact ev_r_areturn (pc := 28) (x := 0) (r := 0) (C := "MendBench$Pattern") (Or.inl rfl) (by decide +kernel) (by decide +kernel) rfl
  · intro c1
    refine ev_r_iload_n (pc := 4) (k := 1) (v := Int32.ofInt a0) (by decide +kernel) (by rfl) ?_
    refine ev_r_aload_n (pc := 5) (k := 0) (v := .ref 0) trivial (by decide +kernel) (by rfl) ?_
    refine ev_r_getI (pc := 6) (y := 134) (ci := 12) (f := 5) (fin := 0) (by decide +kernel) (by decide +kernel) (by exact ev_ob_0) rfl ?_
    intro x2 hx2
    refine ev_r_icmp (pc := 9) (q := .ge) (o := 18) (t := 27) (c := x2 ≤ a0) (by decide +kernel) (ev_k_ge ha0 hx2) (by decide +kernel) ?_ ?_
    · intro c3
      refine ev_r_null (pc := 27) (by decide +kernel) ?_
      exact ev_r_areturn (pc := 28) (x := 0) (r := 0) (C := "MendBench$Pattern") (Or.inl rfl) (by decide +kernel) (by decide +kernel) rfl
    · intro c3
      refine ev_r_iload_n (pc := 12) (k := 1) (v := Int32.ofInt a0) (by decide +kernel) (by rfl) ?_
      refine ev_r_bipush (pc := 13) (k := 12) (by decide +kernel) (by decide +kernel) ?_
      refine ev_r_icmp (pc := 15) (q := .ge) (o := 12) (t := 27) (c := 12 ≤ a0) (by decide +kernel) (ev_k_ge ha0 (by decide)) (by decide +kernel) ?_ ?_
      · intro c4
        refine ev_r_null (pc := 27) (by decide +kernel) ?_
        exact ev_r_areturn (pc := 28) (x := 0) (r := 0) (C := "MendBench$Pattern") (Or.inl rfl) (by decide +kernel) (by decide +kernel) rfl
      · intro c4
        refine ev_r_aload_n (pc := 18) (k := 0) (v := .ref 0) trivial (by decide +kernel) (by rfl) ?_
        refine ev_r_getC (pc := 19) (y := 37) (ci := 12) (f := 4) (fin := 1) (k' := 252) (by decide +kernel) (by decide +kernel) (by exact ev_ob_0) rfl rfl ?_
        refine ev_r_iload_n (pc := 22) (k := 1) (v := Int32.ofInt a0) (by decide +kernel) (by rfl) ?_
        refine ev_r_aald (pc := 23) (N := 12) (b := 313) (c := 20) (C := "MendBench$Pattern") ha0 (by decide +kernel) (by decide +kernel) ?_
        intro c5
        refine ev_r_goto (pc := 24) (o := 4) (t := 28) (by decide +kernel) (by decide +kernel) ?_
        exact ev_r_areturn (pc := 28) (x := ((313 + 20 * Int.toNat a0)) + 1) (r := ((313 + 20 * Int.toNat a0)) + 1) (C := "MendBench$Pattern") (Or.inr (ev_el_252 c5)) (by decide +kernel) (by decide +kernel) rfl
/-- MendBench.groups(I)I -/
def jm_171 (Q : Nat) (a0 : Int) (S : ev_St) : Option ((Int ⊕ String) × ev_St) := ev_bd (jm_200 Q a0 S) fun r2 s1 => if (r2 : Nat) = 0 then (some (.inr "java/lang/IndexOutOfBoundsException", ev_tick s1)) else (ev_b (s1.1 ((r2 - 1)) 12) fun x4 => ev_ck (10 * x4) fun x5 => ev_b (s1.1 ((r2 - 1)) 14) fun x6 => ev_jn (fun (x8 : Int) (x7 : Int) (s11 : ev_St) => ev_ck (x7 + x8) fun x12 => ev_b (s11.1 ((r2 - 1)) 15) fun x13 => if x13 = 0 then (ev_ck (x12 + 0) fun x15 => some ((Sum.inl x15 : Int ⊕ String), s11)) else (ev_ck (x12 + 2) fun x16 => some ((Sum.inl x16 : Int ⊕ String), s11))) fun K39 => if x6 = 0 then (K39 0 x5 s1) else (K39 1 x5 s1))
theorem jt_171 (d : Nat) (hd : 6 ≤ d) (Q : Nat) (a0 : Int) (ha0 : ev_rng a0) (S : ev_St) (x : Int ⊕ String) (S' : ev_St) (hJ : jm_171 Q a0 S = some (x, S')) : ev_Ref d 171 [.ref 0, .int (Int32.ofInt a0)] S (ev_eX x) S' (ev_PX x) := by
  obtain ⟨d, rfl⟩ : ∃ e, d = e + 1 := ⟨d - 1, by omega⟩
  refine ev_ref_of (P := ev_PX) (lv := [(0, .ref 0), (1, .int (Int32.ofInt a0))]) (by decide +kernel) (by (try simp only [ev_sum, ev_nv_cat]); first | done | rfl) (by (try simp only [lv_args, ev_nv_cat]); first | done | rfl) ?_ x S' hJ
  unfold jm_171
  refine ev_r_aload_n (pc := 0) (k := 0) (v := .ref 0) trivial (by decide +kernel) (by rfl) ?_
  refine ev_r_iload_n (pc := 1) (k := 1) (v := Int32.ofInt a0) (by decide +kernel) (by rfl) ?_
  refine ev_r_virt (pc := 2) (y := 156) (mi := 200) (na := 1) (k := 0) (as := [.int (Int32.ofInt a0)]) (rest := []) (encc := ev_oR) (Q := (fun r => r = 0 ∨ ev_isOb (r - 1) 5 = true)) (fun x S1 h => jt_200 d (by omega) Q a0 ha0 S x S1 h) (by exact ev_ob_0) (by decide +kernel) (by decide +kernel) (by decide +kernel) (by decide +kernel) rfl (by (try simp only [ev_sum, ev_nv_cat]); first | done | rfl) ?_
  intro r2 s1 hr2
  show ev_w _ _ _ _ _ [ev_nv r2] _ _ _ _
  refine ev_r_astore_n (pc := 5) (k := 2) (ev_isR_nv _) (by decide +kernel) (by decide +kernel) rfl ?_
  refine ev_r_aload_n (pc := 6) (k := 2) (v := ev_nv r2) (ev_isR_nv _) (by decide +kernel) (by exact ev_lk_st1_self) ?_
  refine ev_r_ifnonnull (pc := 7) (r := r2) (o := 13) (t := 20) (by decide +kernel) (by decide +kernel) ?_ ?_
  · intro c3
    refine ev_r_bipush (pc := 20) (k := 10) (by decide +kernel) (by decide +kernel) ?_
    refine ev_r_aload_n (pc := 22) (k := 2) (v := ev_nv r2) (ev_isR_nv _) (by decide +kernel) (by exact ev_lk_st1_self) ?_
    refine ev_r_dr (r := r2) (fun v => [v, .int (Int32.ofInt 10)]) c3 ?_
    refine ev_r_getI (pc := 23) (y := 165) (ci := 5) (f := 12) (fin := 0) (by decide +kernel) (by decide +kernel) (by exact (hr2.resolve_left c3)) rfl ?_
    intro x4 hx4
    refine ev_r_imul (pc := 26) (by decide +kernel) ?_
    intro x5 hx5
    refine ev_r_aload_n (pc := 27) (k := 2) (v := ev_nv r2) (ev_isR_nv _) (by decide +kernel) (by exact ev_lk_st1_self) ?_
    refine ev_r_dr (r := r2) (fun v => [v, .int (Int32.ofInt x5)]) c3 ?_
    refine ev_r_getI (pc := 28) (y := 168) (ci := 5) (f := 14) (fin := 0) (by decide +kernel) (by decide +kernel) (by exact (hr2.resolve_left c3)) rfl ?_
    intro x6 hx6
    refine ev_r_jn (Q := fun K => ∀ (x8 : Int) (hx8 : ev_rng x8), ∀ (x7 : Int) (hx7 : ev_rng x7), ∀ (s11 : ev_St) (w9 : List (Nat × Value)), ev_lk w9 2 = some (ev_nv r2) → ev_w none (ev_Mof 171) d 39 w9 [.int (Int32.ofInt x8), .int (Int32.ofInt x7)] s11 (K x8 x7 s11) ev_eX ev_PX) ?_ ?_
    · intro x8 hx8 x7 hx7 s11 w9 e10
      refine ev_r_iadd (pc := 39) (by decide +kernel) ?_
      intro x12 hx12
      refine ev_r_aload_n (pc := 40) (k := 2) (v := ev_nv r2) (ev_isR_nv _) (by decide +kernel) (by exact e10) ?_
      refine ev_r_dr (r := r2) (fun v => [v, .int (Int32.ofInt x12)]) c3 ?_
      refine ev_r_getI (pc := 41) (y := 172) (ci := 5) (f := 15) (fin := 0) (by decide +kernel) (by decide +kernel) (by exact (hr2.resolve_left c3)) rfl ?_
      intro x13 hx13
      refine ev_r_if (pc := 44) (q := .eq) (o := 7) (t := 51) (c := x13 = 0) (by decide +kernel) (ev_k_eq hx13 ev_rng0) (by decide +kernel) ?_ ?_
      · intro c14
        refine ev_r_iconst (pc := 51) (k := 0) (by decide +kernel) ?_
        refine ev_r_iadd (pc := 52) (by decide +kernel) ?_
        intro x15 hx15
        exact ev_r_ireturn (pc := 53) (x := (Sum.inl x15 : Int ⊕ String)) (v := Int32.ofInt x15) (ty := .int) hx15 (by decide +kernel) (by decide +kernel) rfl rfl
      · intro c14
        refine ev_r_iconst (pc := 47) (k := 2) (by decide +kernel) ?_
        refine ev_r_goto (pc := 48) (o := 4) (t := 52) (by decide +kernel) (by decide +kernel) ?_
        refine ev_r_iadd (pc := 52) (by decide +kernel) ?_
        intro x16 hx16
        exact ev_r_ireturn (pc := 53) (x := (Sum.inl x16 : Int ⊕ String)) (v := Int32.ofInt x16) (ty := .int) hx16 (by decide +kernel) (by decide +kernel) rfl rfl
    · intro K39 hK39
      refine ev_r_if (pc := 31) (q := .eq) (o := 7) (t := 38) (c := x6 = 0) (by decide +kernel) (ev_k_eq hx6 ev_rng0) (by decide +kernel) ?_ ?_
      · intro c17
        refine ev_r_iconst (pc := 38) (k := 0) (by decide +kernel) ?_
        exact hK39 0 (by decide) x5 hx5 s1 _ (by exact ev_lk_st1_self)
      · intro c17
        refine ev_r_iconst (pc := 34) (k := 1) (by decide +kernel) ?_
        refine ev_r_goto (pc := 35) (o := 4) (t := 39) (by decide +kernel) (by decide +kernel) ?_
        exact hK39 1 (by decide) x5 hx5 s1 _ (by exact ev_lk_st1_self)
  · intro c3
    exact ev_r_throw (pc := 10) (x := (Sum.inr "java/lang/IndexOutOfBoundsException" : Int ⊕ String)) (y := 160) (E := "java/lang/IndexOutOfBoundsException") trivial (by decide +kernel) (by decide +kernel) (by decide +kernel) (Nat.ble_eq.mpr (by omega)) rfl
/-- MendBench.least(I)I -/
def jm_172 (Q : Nat) (a0 : Int) (S : ev_St) : Option ((Int ⊕ String) × ev_St) := ev_bd (jm_200 Q a0 S) fun r2 s1 => if (r2 : Nat) = 0 then (some (.inr "java/lang/IndexOutOfBoundsException", ev_tick s1)) else (ev_b (s1.1 ((r2 - 1)) 16) fun x4 => some ((Sum.inl x4 : Int ⊕ String), s1))
theorem jt_172 (d : Nat) (hd : 6 ≤ d) (Q : Nat) (a0 : Int) (ha0 : ev_rng a0) (S : ev_St) (x : Int ⊕ String) (S' : ev_St) (hJ : jm_172 Q a0 S = some (x, S')) : ev_Ref d 172 [.ref 0, .int (Int32.ofInt a0)] S (ev_eX x) S' (ev_PX x) := by
  obtain ⟨d, rfl⟩ : ∃ e, d = e + 1 := ⟨d - 1, by omega⟩
  refine ev_ref_of (P := ev_PX) (lv := [(0, .ref 0), (1, .int (Int32.ofInt a0))]) (by decide +kernel) (by (try simp only [ev_sum, ev_nv_cat]); first | done | rfl) (by (try simp only [lv_args, ev_nv_cat]); first | done | rfl) ?_ x S' hJ
  unfold jm_172
  refine ev_r_aload_n (pc := 0) (k := 0) (v := .ref 0) trivial (by decide +kernel) (by rfl) ?_
  refine ev_r_iload_n (pc := 1) (k := 1) (v := Int32.ofInt a0) (by decide +kernel) (by rfl) ?_
  refine ev_r_virt (pc := 2) (y := 156) (mi := 200) (na := 1) (k := 0) (as := [.int (Int32.ofInt a0)]) (rest := []) (encc := ev_oR) (Q := (fun r => r = 0 ∨ ev_isOb (r - 1) 5 = true)) (fun x S1 h => jt_200 d (by omega) Q a0 ha0 S x S1 h) (by exact ev_ob_0) (by decide +kernel) (by decide +kernel) (by decide +kernel) (by decide +kernel) rfl (by (try simp only [ev_sum, ev_nv_cat]); first | done | rfl) ?_
  intro r2 s1 hr2
  show ev_w _ _ _ _ _ [ev_nv r2] _ _ _ _
  refine ev_r_astore_n (pc := 5) (k := 2) (ev_isR_nv _) (by decide +kernel) (by decide +kernel) rfl ?_
  refine ev_r_aload_n (pc := 6) (k := 2) (v := ev_nv r2) (ev_isR_nv _) (by decide +kernel) (by exact ev_lk_st1_self) ?_
  refine ev_r_ifnonnull (pc := 7) (r := r2) (o := 13) (t := 20) (by decide +kernel) (by decide +kernel) ?_ ?_
  · intro c3
    refine ev_r_aload_n (pc := 20) (k := 2) (v := ev_nv r2) (ev_isR_nv _) (by decide +kernel) (by exact ev_lk_st1_self) ?_
    refine ev_r_dr (r := r2) (fun v => [v]) c3 ?_
    refine ev_r_getI (pc := 21) (y := 175) (ci := 5) (f := 16) (fin := 0) (by decide +kernel) (by decide +kernel) (by exact (hr2.resolve_left c3)) rfl ?_
    intro x4 hx4
    exact ev_r_ireturn (pc := 24) (x := (Sum.inl x4 : Int ⊕ String)) (v := Int32.ofInt x4) (ty := .int) hx4 (by decide +kernel) (by decide +kernel) rfl rfl
  · intro c3
    exact ev_r_throw (pc := 10) (x := (Sum.inr "java/lang/IndexOutOfBoundsException" : Int ⊕ String)) (y := 160) (E := "java/lang/IndexOutOfBoundsException") trivial (by decide +kernel) (by decide +kernel) (by decide +kernel) (Nat.ble_eq.mpr (by omega)) rfl
/-- MendBench.begins(II)Z -/
def jm_173 (Q : Nat) (a0 : Int) (a1 : Int) (S : ev_St) : Option ((Int ⊕ String) × ev_St) := ev_bd (jm_200 Q a0 S) fun r2 s1 => if (r2 : Nat) = 0 then (some (.inr "java/lang/IndexOutOfBoundsException", ev_tick s1)) else (ev_bd (jm_207 Q a1 s1) fun x5 s4 => if x5 ≠ 0 then (ev_b (s4.1 ((r2 - 1)) 16) fun x7 => if x7 = 0 then (ev_if (ev_bl 1) (some ((Sum.inl 1 : Int ⊕ String), s4))) else (ev_b (s4.2.1 ((r2 - 1)) 17) fun y10 => ev_b (s4.2.1 ((r2 - 1)) 18) fun y11 => ev_bd (jm_214 Q y10 y11 a1 s4) fun x13 s12 => if x13 = 0 then (ev_if (ev_bl 0) (some ((Sum.inl 0 : Int ⊕ String), s12))) else (ev_if (ev_bl 1) (some ((Sum.inl 1 : Int ⊕ String), s12))))) else (some (.inr "java/lang/IllegalArgumentException", ev_tick s4)))
theorem jt_173 (d : Nat) (hd : 6 ≤ d) (Q : Nat) (a0 : Int) (a1 : Int) (ha0 : ev_rng a0) (ha1 : ev_rng a1) (S : ev_St) (x : Int ⊕ String) (S' : ev_St) (hJ : jm_173 Q a0 a1 S = some (x, S')) : ev_Ref d 173 [.ref 0, .int (Int32.ofInt a0), .int (Int32.ofInt a1)] S (ev_eX x) S' (ev_PX x) := by
  obtain ⟨d, rfl⟩ : ∃ e, d = e + 1 := ⟨d - 1, by omega⟩
  refine ev_ref_of (P := ev_PX) (lv := [(0, .ref 0), (1, .int (Int32.ofInt a0)), (2, .int (Int32.ofInt a1))]) (by decide +kernel) (by (try simp only [ev_sum, ev_nv_cat]); first | done | rfl) (by (try simp only [lv_args, ev_nv_cat]); first | done | rfl) ?_ x S' hJ
  unfold jm_173
  refine ev_r_aload_n (pc := 0) (k := 0) (v := .ref 0) trivial (by decide +kernel) (by rfl) ?_
  refine ev_r_iload_n (pc := 1) (k := 1) (v := Int32.ofInt a0) (by decide +kernel) (by rfl) ?_
  refine ev_r_virt (pc := 2) (y := 156) (mi := 200) (na := 1) (k := 0) (as := [.int (Int32.ofInt a0)]) (rest := []) (encc := ev_oR) (Q := (fun r => r = 0 ∨ ev_isOb (r - 1) 5 = true)) (fun x S1 h => jt_200 d (by omega) Q a0 ha0 S x S1 h) (by exact ev_ob_0) (by decide +kernel) (by decide +kernel) (by decide +kernel) (by decide +kernel) rfl (by (try simp only [ev_sum, ev_nv_cat]); first | done | rfl) ?_
  intro r2 s1 hr2
  show ev_w _ _ _ _ _ [ev_nv r2] _ _ _ _
  refine ev_r_astore_n (pc := 5) (k := 3) (ev_isR_nv _) (by decide +kernel) (by decide +kernel) rfl ?_
  refine ev_r_aload_n (pc := 6) (k := 3) (v := ev_nv r2) (ev_isR_nv _) (by decide +kernel) (by exact ev_lk_st1_self) ?_
  refine ev_r_ifnonnull (pc := 7) (r := r2) (o := 13) (t := 20) (by decide +kernel) (by decide +kernel) ?_ ?_
  · intro c3
    refine ev_r_iload_n (pc := 20) (k := 2) (v := Int32.ofInt a1) (by decide +kernel) (by exact (ev_lk_st1 (by rfl) (by decide) rfl)) ?_
    refine ev_r_stat (pc := 21) (y := 178) (kind := 2) (mi := 207) (na := 1) (as := [.int (Int32.ofInt a1)]) (rest := []) (encc := ev_oI) (Q := ev_bl) (fun x S1 h => jt_207 d (by omega) Q a1 ha1 s1 x S1 h) (Or.inl rfl) (by decide +kernel) (by decide +kernel) (by decide +kernel) (by decide +kernel) rfl (by (try simp only [ev_sum, ev_nv_cat]); first | done | rfl) ?_
    intro x5 s4 hx5
    replace hx5 := ev_bl_rng hx5
    show ev_w _ _ _ _ _ [.int (Int32.ofInt x5)] _ _ _ _
    refine ev_r_if (pc := 24) (q := .ne) (o := 13) (t := 37) (c := x5 ≠ 0) (by decide +kernel) (ev_k_ne hx5 ev_rng0) (by decide +kernel) ?_ ?_
    · intro c6
      refine ev_r_aload_n (pc := 37) (k := 3) (v := ev_nv r2) (ev_isR_nv _) (by decide +kernel) (by exact ev_lk_st1_self) ?_
      refine ev_r_dr (r := r2) (fun v => [v]) c3 ?_
      refine ev_r_getI (pc := 38) (y := 175) (ci := 5) (f := 16) (fin := 0) (by decide +kernel) (by decide +kernel) (by exact (hr2.resolve_left c3)) rfl ?_
      intro x7 hx7
      refine ev_r_if (pc := 41) (q := .eq) (o := 18) (t := 59) (c := x7 = 0) (by decide +kernel) (ev_k_eq hx7 ev_rng0) (by decide +kernel) ?_ ?_
      · intro c8
        refine ev_r_iconst (pc := 59) (k := 1) (by decide +kernel) ?_
        refine ev_r_goto (pc := 60) (o := 4) (t := 64) (by decide +kernel) (by decide +kernel) ?_
        refine ev_r_chk ?_
        intro c9
        exact ev_r_ireturn (pc := 64) (x := (Sum.inl 1 : Int ⊕ String)) (v := Int32.ofInt 1) (ty := .boolean) (show ev_rng 1 by decide) (by decide +kernel) (by decide +kernel) (ev_ret_bl c9) rfl
      · intro c8
        refine ev_r_aload_n (pc := 44) (k := 3) (v := ev_nv r2) (ev_isR_nv _) (by decide +kernel) (by exact ev_lk_st1_self) ?_
        refine ev_r_dr (r := r2) (fun v => [v]) c3 ?_
        refine ev_r_getL (pc := 45) (y := 183) (ci := 5) (f := 17) (fin := 0) (by decide +kernel) (by decide +kernel) (by exact (hr2.resolve_left c3)) rfl ?_
        intro y10
        refine ev_r_aload_n (pc := 48) (k := 3) (v := ev_nv r2) (ev_isR_nv _) (by decide +kernel) (by exact ev_lk_st1_self) ?_
        refine ev_r_dr (r := r2) (fun v => [v, .long y10]) c3 ?_
        refine ev_r_getL (pc := 49) (y := 187) (ci := 5) (f := 18) (fin := 0) (by decide +kernel) (by decide +kernel) (by exact (hr2.resolve_left c3)) rfl ?_
        intro y11
        refine ev_r_iload_n (pc := 52) (k := 2) (v := Int32.ofInt a1) (by decide +kernel) (by exact (ev_lk_st1 (by rfl) (by decide) rfl)) ?_
        refine ev_r_stat (pc := 53) (y := 190) (kind := 2) (mi := 214) (na := 3) (as := [.long y10, .long y11, .int (Int32.ofInt a1)]) (rest := []) (encc := ev_oI) (Q := ev_bl) (fun x S1 h => jt_214 d (by omega) Q y10 y11 a1 ha1 s4 x S1 h) (Or.inl rfl) (by decide +kernel) (by decide +kernel) (by decide +kernel) (by decide +kernel) rfl (by (try simp only [ev_sum, ev_nv_cat]); first | done | rfl) ?_
        intro x13 s12 hx13
        replace hx13 := ev_bl_rng hx13
        show ev_w _ _ _ _ _ [.int (Int32.ofInt x13)] _ _ _ _
        refine ev_r_if (pc := 56) (q := .eq) (o := 7) (t := 63) (c := x13 = 0) (by decide +kernel) (ev_k_eq hx13 ev_rng0) (by decide +kernel) ?_ ?_
        · intro c14
          refine ev_r_iconst (pc := 63) (k := 0) (by decide +kernel) ?_
          refine ev_r_chk ?_
          intro c15
          exact ev_r_ireturn (pc := 64) (x := (Sum.inl 0 : Int ⊕ String)) (v := Int32.ofInt 0) (ty := .boolean) (show ev_rng 0 by decide) (by decide +kernel) (by decide +kernel) (ev_ret_bl c15) rfl
        · intro c14
          refine ev_r_iconst (pc := 59) (k := 1) (by decide +kernel) ?_
          refine ev_r_goto (pc := 60) (o := 4) (t := 64) (by decide +kernel) (by decide +kernel) ?_
          refine ev_r_chk ?_
          intro c16
          exact ev_r_ireturn (pc := 64) (x := (Sum.inl 1 : Int ⊕ String)) (v := Int32.ofInt 1) (ty := .boolean) (show ev_rng 1 by decide) (by decide +kernel) (by decide +kernel) (ev_ret_bl c16) rfl
    · intro c6
      exact ev_r_throw (pc := 27) (x := (Sum.inr "java/lang/IllegalArgumentException" : Int ⊕ String)) (y := 98) (E := "java/lang/IllegalArgumentException") trivial (by decide +kernel) (by decide +kernel) (by decide +kernel) (Nat.ble_eq.mpr (by omega)) rfl
  · intro c3
    exact ev_r_throw (pc := 10) (x := (Sum.inr "java/lang/IndexOutOfBoundsException" : Int ⊕ String)) (y := 160) (E := "java/lang/IndexOutOfBoundsException") trivial (by decide +kernel) (by decide +kernel) (by decide +kernel) (Nat.ble_eq.mpr (by omega)) rfl
/-- MendBench.literal(II)I -/
def jm_174 (Q : Nat) (a0 : Int) (a1 : Int) (S : ev_St) : Option ((Int ⊕ String) × ev_St) := ev_bd (jm_200 Q a0 S) fun r2 s1 => if (r2 : Nat) = 0 then (some (.inr "java/lang/IndexOutOfBoundsException", ev_tick s1)) else (if 0 ≤ a1 then (ev_bd (jm_151 Q (((r2 - 1) + 18)) a1 s1) fun x6 s5 => some ((Sum.inl x6 : Int ⊕ String), s5)) else (some (.inr "java/lang/IllegalArgumentException", ev_tick s1)))
theorem jt_174 (d : Nat) (hd : 6 ≤ d) (Q : Nat) (a0 : Int) (a1 : Int) (ha0 : ev_rng a0) (ha1 : ev_rng a1) (S : ev_St) (x : Int ⊕ String) (S' : ev_St) (hJ : jm_174 Q a0 a1 S = some (x, S')) : ev_Ref d 174 [.ref 0, .int (Int32.ofInt a0), .int (Int32.ofInt a1)] S (ev_eX x) S' (ev_PX x) := by
  obtain ⟨d, rfl⟩ : ∃ e, d = e + 1 := ⟨d - 1, by omega⟩
  refine ev_ref_of (P := ev_PX) (lv := [(0, .ref 0), (1, .int (Int32.ofInt a0)), (2, .int (Int32.ofInt a1))]) (by decide +kernel) (by (try simp only [ev_sum, ev_nv_cat]); first | done | rfl) (by (try simp only [lv_args, ev_nv_cat]); first | done | rfl) ?_ x S' hJ
  unfold jm_174
  refine ev_r_aload_n (pc := 0) (k := 0) (v := .ref 0) trivial (by decide +kernel) (by rfl) ?_
  refine ev_r_iload_n (pc := 1) (k := 1) (v := Int32.ofInt a0) (by decide +kernel) (by rfl) ?_
  refine ev_r_virt (pc := 2) (y := 156) (mi := 200) (na := 1) (k := 0) (as := [.int (Int32.ofInt a0)]) (rest := []) (encc := ev_oR) (Q := (fun r => r = 0 ∨ ev_isOb (r - 1) 5 = true)) (fun x S1 h => jt_200 d (by omega) Q a0 ha0 S x S1 h) (by exact ev_ob_0) (by decide +kernel) (by decide +kernel) (by decide +kernel) (by decide +kernel) rfl (by (try simp only [ev_sum, ev_nv_cat]); first | done | rfl) ?_
  intro r2 s1 hr2
  show ev_w _ _ _ _ _ [ev_nv r2] _ _ _ _
  refine ev_r_astore_n (pc := 5) (k := 3) (ev_isR_nv _) (by decide +kernel) (by decide +kernel) rfl ?_
  refine ev_r_aload_n (pc := 6) (k := 3) (v := ev_nv r2) (ev_isR_nv _) (by decide +kernel) (by exact ev_lk_st1_self) ?_
  refine ev_r_ifnonnull (pc := 7) (r := r2) (o := 13) (t := 20) (by decide +kernel) (by decide +kernel) ?_ ?_
  · intro c3
    refine ev_r_iload_n (pc := 20) (k := 2) (v := Int32.ofInt a1) (by decide +kernel) (by exact (ev_lk_st1 (by rfl) (by decide) rfl)) ?_
    refine ev_r_if (pc := 21) (q := .ge) (o := 13) (t := 34) (c := 0 ≤ a1) (by decide +kernel) (ev_k_ge ha1 ev_rng0) (by decide +kernel) ?_ ?_
    · intro c4
      refine ev_r_aload_n (pc := 34) (k := 3) (v := ev_nv r2) (ev_isR_nv _) (by decide +kernel) (by exact ev_lk_st1_self) ?_
      refine ev_r_dr (r := r2) (fun v => [v]) c3 ?_
      refine ev_r_getC (pc := 35) (y := 196) (ci := 5) (f := 20) (fin := 2) (k' := ((r2 - 1) + 18)) (by decide +kernel) (by decide +kernel) (by exact (hr2.resolve_left c3)) rfl rfl ?_
      refine ev_r_iload_n (pc := 38) (k := 2) (v := Int32.ofInt a1) (by decide +kernel) (by exact (ev_lk_st1 (by rfl) (by decide) rfl)) ?_
      refine ev_r_virt (pc := 39) (y := 199) (mi := 151) (na := 1) (k := ((r2 - 1) + 18)) (as := [.int (Int32.ofInt a1)]) (rest := []) (encc := ev_oI) (Q := ev_rng) (fun x S1 h => jt_151 d (by omega) Q (((r2 - 1) + 18)) a1 (ev_fo_5_20 (hr2.resolve_left c3)) ha1 s1 x S1 h) (by exact (ev_fo_5_20 (hr2.resolve_left c3))) (by decide +kernel) (by decide +kernel) (by decide +kernel) (by decide +kernel) rfl (by (try simp only [ev_sum, ev_nv_cat]); first | done | rfl) ?_
      intro x6 s5 hx6
      show ev_w _ _ _ _ _ [.int (Int32.ofInt x6)] _ _ _ _
      exact ev_r_ireturn (pc := 42) (x := (Sum.inl x6 : Int ⊕ String)) (v := Int32.ofInt x6) (ty := .int) hx6 (by decide +kernel) (by decide +kernel) rfl rfl
    · intro c4
      exact ev_r_throw (pc := 24) (x := (Sum.inr "java/lang/IllegalArgumentException" : Int ⊕ String)) (y := 98) (E := "java/lang/IllegalArgumentException") trivial (by decide +kernel) (by decide +kernel) (by decide +kernel) (Nat.ble_eq.mpr (by omega)) rfl
  · intro c3
    exact ev_r_throw (pc := 10) (x := (Sum.inr "java/lang/IndexOutOfBoundsException" : Int ⊕ String)) (y := 160) (E := "java/lang/IndexOutOfBoundsException") trivial (by decide +kernel) (by decide +kernel) (by decide +kernel) (Nat.ble_eq.mpr (by omega)) rfl
/-- MendBench.runaway(I)I -/
def jm_175 (Q : Nat) (a0 : Int) (S : ev_St) : Option ((Int ⊕ String) × ev_St) := ev_bd (jm_200 Q a0 S) fun r2 s1 => if (r2 : Nat) = 0 then (some (.inr "java/lang/IndexOutOfBoundsException", ev_tick s1)) else (ev_b (s1.1 ((r2 - 1)) 19) fun x4 => some ((Sum.inl x4 : Int ⊕ String), s1))
theorem jt_175 (d : Nat) (hd : 6 ≤ d) (Q : Nat) (a0 : Int) (ha0 : ev_rng a0) (S : ev_St) (x : Int ⊕ String) (S' : ev_St) (hJ : jm_175 Q a0 S = some (x, S')) : ev_Ref d 175 [.ref 0, .int (Int32.ofInt a0)] S (ev_eX x) S' (ev_PX x) := by
  obtain ⟨d, rfl⟩ : ∃ e, d = e + 1 := ⟨d - 1, by omega⟩
  refine ev_ref_of (P := ev_PX) (lv := [(0, .ref 0), (1, .int (Int32.ofInt a0))]) (by decide +kernel) (by (try simp only [ev_sum, ev_nv_cat]); first | done | rfl) (by (try simp only [lv_args, ev_nv_cat]); first | done | rfl) ?_ x S' hJ
  unfold jm_175
  refine ev_r_aload_n (pc := 0) (k := 0) (v := .ref 0) trivial (by decide +kernel) (by rfl) ?_
  refine ev_r_iload_n (pc := 1) (k := 1) (v := Int32.ofInt a0) (by decide +kernel) (by rfl) ?_
  refine ev_r_virt (pc := 2) (y := 156) (mi := 200) (na := 1) (k := 0) (as := [.int (Int32.ofInt a0)]) (rest := []) (encc := ev_oR) (Q := (fun r => r = 0 ∨ ev_isOb (r - 1) 5 = true)) (fun x S1 h => jt_200 d (by omega) Q a0 ha0 S x S1 h) (by exact ev_ob_0) (by decide +kernel) (by decide +kernel) (by decide +kernel) (by decide +kernel) rfl (by (try simp only [ev_sum, ev_nv_cat]); first | done | rfl) ?_
  intro r2 s1 hr2
  show ev_w _ _ _ _ _ [ev_nv r2] _ _ _ _
  refine ev_r_astore_n (pc := 5) (k := 2) (ev_isR_nv _) (by decide +kernel) (by decide +kernel) rfl ?_
  refine ev_r_aload_n (pc := 6) (k := 2) (v := ev_nv r2) (ev_isR_nv _) (by decide +kernel) (by exact ev_lk_st1_self) ?_
  refine ev_r_ifnonnull (pc := 7) (r := r2) (o := 13) (t := 20) (by decide +kernel) (by decide +kernel) ?_ ?_
  · intro c3
    refine ev_r_aload_n (pc := 20) (k := 2) (v := ev_nv r2) (ev_isR_nv _) (by decide +kernel) (by exact ev_lk_st1_self) ?_
    refine ev_r_dr (r := r2) (fun v => [v]) c3 ?_
    refine ev_r_getI (pc := 21) (y := 202) (ci := 5) (f := 19) (fin := 0) (by decide +kernel) (by decide +kernel) (by exact (hr2.resolve_left c3)) rfl ?_
    intro x4 hx4
    exact ev_r_ireturn (pc := 24) (x := (Sum.inl x4 : Int ⊕ String)) (v := Int32.ofInt x4) (ty := .int) hx4 (by decide +kernel) (by decide +kernel) rfl rfl
  · intro c3
    exact ev_r_throw (pc := 10) (x := (Sum.inr "java/lang/IndexOutOfBoundsException" : Int ⊕ String)) (y := 160) (E := "java/lang/IndexOutOfBoundsException") trivial (by decide +kernel) (by decide +kernel) (by decide +kernel) (Nat.ble_eq.mpr (by omega)) rfl
/-- MendBench.isSearch(IIII)Z -/
def jm_203 (Q : Nat) (a0 : Int) (a1 : Int) (a2 : Int) (a3 : Int) (S : ev_St) : Option ((Int) × ev_St) := ev_bd (jm_200 Q a0 S) fun r2 s1 => ev_bd (jm_1 Q a1 s1) fun r4 s3 => if (r2 : Nat) = 0 then (some (0, s3)) else (if (r4 : Nat) = 0 then (some (0, s3)) else (if a2 < 0 then (some (0, s3)) else (ev_b (s3.1 ((r4 - 1)) 1) fun x8 => if x8 < a2 then (some (0, s3)) else (if a3 < 0 then (some (0, s3)) else (ev_b (s3.1 ((r2 - 1)) 12) fun x11 => if x11 < a3 then (some (0, s3)) else (some (1, s3)))))))
theorem jt_203 (d : Nat) (hd : 2 ≤ d) (Q : Nat) (a0 : Int) (a1 : Int) (a2 : Int) (a3 : Int) (ha0 : ev_rng a0) (ha1 : ev_rng a1) (ha2 : ev_rng a2) (ha3 : ev_rng a3) (S : ev_St) (x : Int) (S' : ev_St) (hJ : jm_203 Q a0 a1 a2 a3 S = some (x, S')) : ev_Ref d 203 [.ref 0, .int (Int32.ofInt a0), .int (Int32.ofInt a1), .int (Int32.ofInt a2), .int (Int32.ofInt a3)] S (ev_eI x) S' (ev_bl x) := by
  obtain ⟨d, rfl⟩ : ∃ e, d = e + 1 := ⟨d - 1, by omega⟩
  refine ev_ref_of (P := ev_bl) (lv := [(0, .ref 0), (1, .int (Int32.ofInt a0)), (2, .int (Int32.ofInt a1)), (3, .int (Int32.ofInt a2)), (4, .int (Int32.ofInt a3))]) (by decide +kernel) (by (try simp only [ev_sum, ev_nv_cat]); first | done | rfl) (by (try simp only [lv_args, ev_nv_cat]); first | done | rfl) ?_ x S' hJ
  unfold jm_203
  refine ev_r_aload_n (pc := 0) (k := 0) (v := .ref 0) trivial (by decide +kernel) (by rfl) ?_
  refine ev_r_iload_n (pc := 1) (k := 1) (v := Int32.ofInt a0) (by decide +kernel) (by rfl) ?_
  refine ev_r_virt (pc := 2) (y := 156) (mi := 200) (na := 1) (k := 0) (as := [.int (Int32.ofInt a0)]) (rest := []) (encc := ev_oR) (Q := (fun r => r = 0 ∨ ev_isOb (r - 1) 5 = true)) (fun x S1 h => jt_200 d (by omega) Q a0 ha0 S x S1 h) (by exact ev_ob_0) (by decide +kernel) (by decide +kernel) (by decide +kernel) (by decide +kernel) rfl (by (try simp only [ev_sum, ev_nv_cat]); first | done | rfl) ?_
  intro r2 s1 hr2
  show ev_w _ _ _ _ _ [ev_nv r2] _ _ _ _
  refine ev_r_astore (pc := 5) (k := 5) (ev_isR_nv _) (by decide +kernel) (by decide +kernel) rfl ?_
  refine ev_r_aload_n (pc := 7) (k := 0) (v := .ref 0) trivial (by decide +kernel) (by exact (ev_l1 (by rfl) (by decide) (by decide))) ?_
  refine ev_r_getC (pc := 8) (y := 48) (ci := 12) (f := 8) (fin := 1) (k' := 254) (by decide +kernel) (by decide +kernel) (by exact ev_ob_0) rfl rfl ?_
  refine ev_r_iload_n (pc := 11) (k := 2) (v := Int32.ofInt a1) (by decide +kernel) (by exact (ev_l1 (by rfl) (by decide) (by decide))) ?_
  refine ev_r_virt (pc := 12) (y := 221) (mi := 1) (na := 1) (k := 254) (as := [.int (Int32.ofInt a1)]) (rest := []) (encc := ev_oR) (Q := (fun r => r = 0 ∨ ev_isOb (r - 1) 10 = true)) (fun x S1 h => jt_1 d (by omega) Q a1 ha1 s1 x S1 h) (by exact ev_ob_254) (by decide +kernel) (by decide +kernel) (by decide +kernel) (by decide +kernel) rfl (by (try simp only [ev_sum, ev_nv_cat]); first | done | rfl) ?_
  intro r4 s3 hr4
  show ev_w _ _ _ _ _ [ev_nv r4] _ _ _ _
  refine ev_r_astore (pc := 15) (k := 6) (ev_isR_nv _) (by decide +kernel) (by decide +kernel) rfl ?_
  refine ev_r_aload (pc := 17) (k := 5) (v := ev_nv r2) (ev_isR_nv _) (by decide +kernel) (by exact (ev_lk_st1 ev_lk_st1_self (by decide) (ev_nv_cat _))) ?_
  refine ev_r_ifnull (pc := 19) (r := r2) (o := 40) (t := 59) (by decide +kernel) (by decide +kernel) ?_ ?_
  · intro c5
    refine ev_r_iconst (pc := 59) (k := 0) (by decide +kernel) ?_
    exact ev_r_ireturn (pc := 60) (x := 0) (v := Int32.ofInt 0) (ty := .boolean) (by decide : ev_bl 0) (by decide +kernel) (by decide +kernel) (ev_ret_bl (by decide : ev_bl 0)) rfl
  · intro c5
    refine ev_r_aload (pc := 22) (k := 6) (v := ev_nv r4) (ev_isR_nv _) (by decide +kernel) (by exact ev_lk_st1_self) ?_
    refine ev_r_ifnull (pc := 24) (r := r4) (o := 35) (t := 59) (by decide +kernel) (by decide +kernel) ?_ ?_
    · intro c6
      refine ev_r_iconst (pc := 59) (k := 0) (by decide +kernel) ?_
      exact ev_r_ireturn (pc := 60) (x := 0) (v := Int32.ofInt 0) (ty := .boolean) (by decide : ev_bl 0) (by decide +kernel) (by decide +kernel) (ev_ret_bl (by decide : ev_bl 0)) rfl
    · intro c6
      refine ev_r_iload_n (pc := 27) (k := 3) (v := Int32.ofInt a2) (by decide +kernel) (by exact (ev_l1 (ev_l1 (by rfl) (by decide) (by decide)) (by decide) (by decide))) ?_
      refine ev_r_if (pc := 28) (q := .lt) (o := 31) (t := 59) (c := a2 < 0) (by decide +kernel) (ev_k_lt ha2 ev_rng0) (by decide +kernel) ?_ ?_
      · intro c7
        refine ev_r_iconst (pc := 59) (k := 0) (by decide +kernel) ?_
        exact ev_r_ireturn (pc := 60) (x := 0) (v := Int32.ofInt 0) (ty := .boolean) (by decide : ev_bl 0) (by decide +kernel) (by decide +kernel) (ev_ret_bl (by decide : ev_bl 0)) rfl
      · intro c7
        refine ev_r_iload_n (pc := 31) (k := 3) (v := Int32.ofInt a2) (by decide +kernel) (by exact (ev_l1 (ev_l1 (by rfl) (by decide) (by decide)) (by decide) (by decide))) ?_
        refine ev_r_aload (pc := 32) (k := 6) (v := ev_nv r4) (ev_isR_nv _) (by decide +kernel) (by exact ev_lk_st1_self) ?_
        refine ev_r_dr (r := r4) (fun v => [v, .int (Int32.ofInt a2)]) c6 ?_
        refine ev_r_getI (pc := 34) (y := 105) (ci := 10) (f := 1) (fin := 0) (by decide +kernel) (by decide +kernel) (by exact (hr4.resolve_left c6)) rfl ?_
        intro x8 hx8
        refine ev_r_icmp (pc := 37) (q := .gt) (o := 22) (t := 59) (c := x8 < a2) (by decide +kernel) (ev_k_gt ha2 hx8) (by decide +kernel) ?_ ?_
        · intro c9
          refine ev_r_iconst (pc := 59) (k := 0) (by decide +kernel) ?_
          exact ev_r_ireturn (pc := 60) (x := 0) (v := Int32.ofInt 0) (ty := .boolean) (by decide : ev_bl 0) (by decide +kernel) (by decide +kernel) (ev_ret_bl (by decide : ev_bl 0)) rfl
        · intro c9
          refine ev_r_iload (pc := 40) (k := 4) (v := Int32.ofInt a3) (by decide +kernel) (by exact (ev_l1 (ev_lk_st1 (by rfl) (by decide) rfl) (by decide) (by decide))) ?_
          refine ev_r_if (pc := 42) (q := .lt) (o := 17) (t := 59) (c := a3 < 0) (by decide +kernel) (ev_k_lt ha3 ev_rng0) (by decide +kernel) ?_ ?_
          · intro c10
            refine ev_r_iconst (pc := 59) (k := 0) (by decide +kernel) ?_
            exact ev_r_ireturn (pc := 60) (x := 0) (v := Int32.ofInt 0) (ty := .boolean) (by decide : ev_bl 0) (by decide +kernel) (by decide +kernel) (ev_ret_bl (by decide : ev_bl 0)) rfl
          · intro c10
            refine ev_r_iload (pc := 45) (k := 4) (v := Int32.ofInt a3) (by decide +kernel) (by exact (ev_l1 (ev_lk_st1 (by rfl) (by decide) rfl) (by decide) (by decide))) ?_
            refine ev_r_aload (pc := 47) (k := 5) (v := ev_nv r2) (ev_isR_nv _) (by decide +kernel) (by exact (ev_lk_st1 ev_lk_st1_self (by decide) (ev_nv_cat _))) ?_
            refine ev_r_dr (r := r2) (fun v => [v, .int (Int32.ofInt a3)]) c5 ?_
            refine ev_r_getI (pc := 49) (y := 165) (ci := 5) (f := 12) (fin := 0) (by decide +kernel) (by decide +kernel) (by exact (hr2.resolve_left c5)) rfl ?_
            intro x11 hx11
            refine ev_r_icmp (pc := 52) (q := .gt) (o := 7) (t := 59) (c := x11 < a3) (by decide +kernel) (ev_k_gt ha3 hx11) (by decide +kernel) ?_ ?_
            · intro c12
              refine ev_r_iconst (pc := 59) (k := 0) (by decide +kernel) ?_
              exact ev_r_ireturn (pc := 60) (x := 0) (v := Int32.ofInt 0) (ty := .boolean) (by decide : ev_bl 0) (by decide +kernel) (by decide +kernel) (ev_ret_bl (by decide : ev_bl 0)) rfl
            · intro c12
              refine ev_r_iconst (pc := 55) (k := 1) (by decide +kernel) ?_
              refine ev_r_goto (pc := 56) (o := 4) (t := 60) (by decide +kernel) (by decide +kernel) ?_
              exact ev_r_ireturn (pc := 60) (x := 1) (v := Int32.ofInt 1) (ty := .boolean) (by decide : ev_bl 1) (by decide +kernel) (by decide +kernel) (ev_ret_bl (by decide : ev_bl 1)) rfl
/-- MendBench.findBack(IIII)I -/
def jm_204 (Q : Nat) (a0 : Int) (a1 : Int) (a2 : Int) (a3 : Int) (S : ev_St) : Option ((Int) × ev_St) := ev_bd (jm_200 Q a0 S) fun r2 s1 => ev_bd (jm_1 Q a1 s1) fun r4 s3 => if (r2 : Nat) = 0 then (some ((-1), s3)) else (if (r4 : Nat) = 0 then (some ((-1), s3)) else (ev_bd (jm_115 Q r2 r4 a2 s3) fun x8 s7 => if 0 ≤ x8 then (ev_bd (jm_118 Q a3 s7) fun x11 s10 => some (x11, s10)) else (some (x8, s7))))
theorem jt_204 (d : Nat) (hd : 7 ≤ d) (Q : Nat) (a0 : Int) (a1 : Int) (a2 : Int) (a3 : Int) (ha0 : ev_rng a0) (ha1 : ev_rng a1) (ha2 : ev_rng a2) (ha3 : ev_rng a3) (S : ev_St) (x : Int) (S' : ev_St) (hJ : jm_204 Q a0 a1 a2 a3 S = some (x, S')) : ev_Ref d 204 [.ref 0, .int (Int32.ofInt a0), .int (Int32.ofInt a1), .int (Int32.ofInt a2), .int (Int32.ofInt a3)] S (ev_eI x) S' (ev_rng x) := by
  obtain ⟨d, rfl⟩ : ∃ e, d = e + 1 := ⟨d - 1, by omega⟩
  refine ev_ref_of (P := ev_rng) (lv := [(0, .ref 0), (1, .int (Int32.ofInt a0)), (2, .int (Int32.ofInt a1)), (3, .int (Int32.ofInt a2)), (4, .int (Int32.ofInt a3))]) (by decide +kernel) (by (try simp only [ev_sum, ev_nv_cat]); first | done | rfl) (by (try simp only [lv_args, ev_nv_cat]); first | done | rfl) ?_ x S' hJ
  unfold jm_204
  refine ev_r_aload_n (pc := 0) (k := 0) (v := .ref 0) trivial (by decide +kernel) (by rfl) ?_
  refine ev_r_iload_n (pc := 1) (k := 1) (v := Int32.ofInt a0) (by decide +kernel) (by rfl) ?_
  refine ev_r_virt (pc := 2) (y := 156) (mi := 200) (na := 1) (k := 0) (as := [.int (Int32.ofInt a0)]) (rest := []) (encc := ev_oR) (Q := (fun r => r = 0 ∨ ev_isOb (r - 1) 5 = true)) (fun x S1 h => jt_200 d (by omega) Q a0 ha0 S x S1 h) (by exact ev_ob_0) (by decide +kernel) (by decide +kernel) (by decide +kernel) (by decide +kernel) rfl (by (try simp only [ev_sum, ev_nv_cat]); first | done | rfl) ?_
  intro r2 s1 hr2
  show ev_w _ _ _ _ _ [ev_nv r2] _ _ _ _
  refine ev_r_astore (pc := 5) (k := 5) (ev_isR_nv _) (by decide +kernel) (by decide +kernel) rfl ?_
  refine ev_r_aload_n (pc := 7) (k := 0) (v := .ref 0) trivial (by decide +kernel) (by exact (ev_l1 (by rfl) (by decide) (by decide))) ?_
  refine ev_r_getC (pc := 8) (y := 48) (ci := 12) (f := 8) (fin := 1) (k' := 254) (by decide +kernel) (by decide +kernel) (by exact ev_ob_0) rfl rfl ?_
  refine ev_r_iload_n (pc := 11) (k := 2) (v := Int32.ofInt a1) (by decide +kernel) (by exact (ev_l1 (by rfl) (by decide) (by decide))) ?_
  refine ev_r_virt (pc := 12) (y := 221) (mi := 1) (na := 1) (k := 254) (as := [.int (Int32.ofInt a1)]) (rest := []) (encc := ev_oR) (Q := (fun r => r = 0 ∨ ev_isOb (r - 1) 10 = true)) (fun x S1 h => jt_1 d (by omega) Q a1 ha1 s1 x S1 h) (by exact ev_ob_254) (by decide +kernel) (by decide +kernel) (by decide +kernel) (by decide +kernel) rfl (by (try simp only [ev_sum, ev_nv_cat]); first | done | rfl) ?_
  intro r4 s3 hr4
  show ev_w _ _ _ _ _ [ev_nv r4] _ _ _ _
  refine ev_r_astore (pc := 15) (k := 6) (ev_isR_nv _) (by decide +kernel) (by decide +kernel) rfl ?_
  refine ev_r_aload (pc := 17) (k := 5) (v := ev_nv r2) (ev_isR_nv _) (by decide +kernel) (by exact (ev_lk_st1 ev_lk_st1_self (by decide) (ev_nv_cat _))) ?_
  refine ev_r_ifnull (pc := 19) (r := r2) (o := 8) (t := 27) (by decide +kernel) (by decide +kernel) ?_ ?_
  · intro c5
    refine ev_r_iconst (pc := 27) (k := -1) (by decide +kernel) ?_
    exact ev_r_ireturn (pc := 28) (x := (-1)) (v := Int32.ofInt ((-1))) (ty := .int) (by decide) (by decide +kernel) (by decide +kernel) rfl rfl
  · intro c5
    refine ev_r_aload (pc := 22) (k := 6) (v := ev_nv r4) (ev_isR_nv _) (by decide +kernel) (by exact ev_lk_st1_self) ?_
    refine ev_r_ifnonnull (pc := 24) (r := r4) (o := 5) (t := 29) (by decide +kernel) (by decide +kernel) ?_ ?_
    · intro c6
      refine ev_r_aload_n (pc := 29) (k := 0) (v := .ref 0) trivial (by decide +kernel) (by exact (ev_l1 (ev_l1 (by rfl) (by decide) (by decide)) (by decide) (by decide))) ?_
      refine ev_r_getC (pc := 30) (y := 62) (ci := 12) (f := 10) (fin := 1) (k' := 281) (by decide +kernel) (by decide +kernel) (by exact ev_ob_0) rfl rfl ?_
      refine ev_r_aload (pc := 33) (k := 5) (v := ev_nv r2) (ev_isR_nv _) (by decide +kernel) (by exact (ev_lk_st1 ev_lk_st1_self (by decide) (ev_nv_cat _))) ?_
      refine ev_r_aload (pc := 35) (k := 6) (v := ev_nv r4) (ev_isR_nv _) (by decide +kernel) (by exact ev_lk_st1_self) ?_
      refine ev_r_iload_n (pc := 37) (k := 3) (v := Int32.ofInt a2) (by decide +kernel) (by exact (ev_l1 (ev_l1 (by rfl) (by decide) (by decide)) (by decide) (by decide))) ?_
      refine ev_r_virt (pc := 38) (y := 227) (mi := 115) (na := 3) (k := 281) (as := [ev_nv r2, ev_nv r4, .int (Int32.ofInt a2)]) (rest := []) (encc := ev_oI) (Q := ev_rng) (fun x S1 h => jt_115 d (by omega) Q r2 r4 a2 (by exact hr2) (by exact hr4) ha2 s3 x S1 h) (by exact ev_ob_281) (by decide +kernel) (by decide +kernel) (by decide +kernel) (by decide +kernel) rfl (by (try simp only [ev_sum, ev_nv_cat]); first | done | rfl) ?_
      intro x8 s7 hx8
      show ev_w _ _ _ _ _ [.int (Int32.ofInt x8)] _ _ _ _
      refine ev_r_istore (pc := 41) (k := 7) (by decide +kernel) (by decide +kernel) rfl ?_
      refine ev_r_iload (pc := 43) (k := 7) (v := Int32.ofInt x8) (by decide +kernel) (by exact ev_lk_st1_self) ?_
      refine ev_r_if (pc := 45) (q := .ge) (o := 8) (t := 53) (c := 0 ≤ x8) (by decide +kernel) (ev_k_ge hx8 ev_rng0) (by decide +kernel) ?_ ?_
      · intro c9
        refine ev_r_aload_n (pc := 53) (k := 0) (v := .ref 0) trivial (by decide +kernel) (by exact (ev_l1 (ev_l1 (ev_l1 (by rfl) (by decide) (by decide)) (by decide) (by decide)) (by decide) (by decide))) ?_
        refine ev_r_getC (pc := 54) (y := 62) (ci := 12) (f := 10) (fin := 1) (k' := 281) (by decide +kernel) (by decide +kernel) (by exact ev_ob_0) rfl rfl ?_
        refine ev_r_iload (pc := 57) (k := 4) (v := Int32.ofInt a3) (by decide +kernel) (by exact (ev_l1 (ev_l1 (ev_lk_st1 (by rfl) (by decide) rfl) (by decide) (by decide)) (by decide) (by decide))) ?_
        refine ev_r_virt (pc := 59) (y := 373) (mi := 118) (na := 1) (k := 281) (as := [.int (Int32.ofInt a3)]) (rest := []) (encc := ev_oI) (Q := ev_rng) (fun x S1 h => jt_118 d (by omega) Q a3 ha3 s7 x S1 h) (by exact ev_ob_281) (by decide +kernel) (by decide +kernel) (by decide +kernel) (by decide +kernel) rfl (by (try simp only [ev_sum, ev_nv_cat]); first | done | rfl) ?_
        intro x11 s10 hx11
        show ev_w _ _ _ _ _ [.int (Int32.ofInt x11)] _ _ _ _
        exact ev_r_ireturn (pc := 62) (x := x11) (v := Int32.ofInt x11) (ty := .int) hx11 (by decide +kernel) (by decide +kernel) rfl rfl
      · intro c9
        refine ev_r_iload (pc := 48) (k := 7) (v := Int32.ofInt x8) (by decide +kernel) (by exact ev_lk_st1_self) ?_
        refine ev_r_goto (pc := 50) (o := 12) (t := 62) (by decide +kernel) (by decide +kernel) ?_
        exact ev_r_ireturn (pc := 62) (x := x8) (v := Int32.ofInt x8) (ty := .int) hx8 (by decide +kernel) (by decide +kernel) rfl rfl
    · intro c6
      refine ev_r_iconst (pc := 27) (k := -1) (by decide +kernel) ?_
      exact ev_r_ireturn (pc := 28) (x := (-1)) (v := Int32.ofInt ((-1))) (ty := .int) (by decide) (by decide +kernel) (by decide +kernel) rfl rfl
/-- MendBench.find(IIII)I -/
def jm_176 (Q : Nat) (a0 : Int) (a1 : Int) (a2 : Int) (a3 : Int) (S : ev_St) : Option ((Int ⊕ String) × ev_St) := ev_bd (jm_203 Q a0 a1 a2 a3 S) fun x2 s1 => if x2 ≠ 0 then (ev_bd (jm_204 Q a0 a1 a2 a3 s1) fun x5 s4 => some ((Sum.inl x5 : Int ⊕ String), s4)) else (some (.inr "java/lang/IndexOutOfBoundsException", ev_tick s1))
theorem jt_176 (d : Nat) (hd : 8 ≤ d) (Q : Nat) (a0 : Int) (a1 : Int) (a2 : Int) (a3 : Int) (ha0 : ev_rng a0) (ha1 : ev_rng a1) (ha2 : ev_rng a2) (ha3 : ev_rng a3) (S : ev_St) (x : Int ⊕ String) (S' : ev_St) (hJ : jm_176 Q a0 a1 a2 a3 S = some (x, S')) : ev_Ref d 176 [.ref 0, .int (Int32.ofInt a0), .int (Int32.ofInt a1), .int (Int32.ofInt a2), .int (Int32.ofInt a3)] S (ev_eX x) S' (ev_PX x) := by
  obtain ⟨d, rfl⟩ : ∃ e, d = e + 1 := ⟨d - 1, by omega⟩
  refine ev_ref_of (P := ev_PX) (lv := [(0, .ref 0), (1, .int (Int32.ofInt a0)), (2, .int (Int32.ofInt a1)), (3, .int (Int32.ofInt a2)), (4, .int (Int32.ofInt a3))]) (by decide +kernel) (by (try simp only [ev_sum, ev_nv_cat]); first | done | rfl) (by (try simp only [lv_args, ev_nv_cat]); first | done | rfl) ?_ x S' hJ
  unfold jm_176
  refine ev_r_aload_n (pc := 0) (k := 0) (v := .ref 0) trivial (by decide +kernel) (by rfl) ?_
  refine ev_r_iload_n (pc := 1) (k := 1) (v := Int32.ofInt a0) (by decide +kernel) (by rfl) ?_
  refine ev_r_iload_n (pc := 2) (k := 2) (v := Int32.ofInt a1) (by decide +kernel) (by rfl) ?_
  refine ev_r_iload_n (pc := 3) (k := 3) (v := Int32.ofInt a2) (by decide +kernel) (by rfl) ?_
  refine ev_r_iload (pc := 4) (k := 4) (v := Int32.ofInt a3) (by decide +kernel) (by rfl) ?_
  refine ev_r_virt (pc := 6) (y := 205) (mi := 203) (na := 4) (k := 0) (as := [.int (Int32.ofInt a0), .int (Int32.ofInt a1), .int (Int32.ofInt a2), .int (Int32.ofInt a3)]) (rest := []) (encc := ev_oI) (Q := ev_bl) (fun x S1 h => jt_203 d (by omega) Q a0 a1 a2 a3 ha0 ha1 ha2 ha3 S x S1 h) (by exact ev_ob_0) (by decide +kernel) (by decide +kernel) (by decide +kernel) (by decide +kernel) rfl (by (try simp only [ev_sum, ev_nv_cat]); first | done | rfl) ?_
  intro x2 s1 hx2
  replace hx2 := ev_bl_rng hx2
  show ev_w _ _ _ _ _ [.int (Int32.ofInt x2)] _ _ _ _
  refine ev_r_if (pc := 9) (q := .ne) (o := 13) (t := 22) (c := x2 ≠ 0) (by decide +kernel) (ev_k_ne hx2 ev_rng0) (by decide +kernel) ?_ ?_
  · intro c3
    refine ev_r_aload_n (pc := 22) (k := 0) (v := .ref 0) trivial (by decide +kernel) (by rfl) ?_
    refine ev_r_iload_n (pc := 23) (k := 1) (v := Int32.ofInt a0) (by decide +kernel) (by rfl) ?_
    refine ev_r_iload_n (pc := 24) (k := 2) (v := Int32.ofInt a1) (by decide +kernel) (by rfl) ?_
    refine ev_r_iload_n (pc := 25) (k := 3) (v := Int32.ofInt a2) (by decide +kernel) (by rfl) ?_
    refine ev_r_iload (pc := 26) (k := 4) (v := Int32.ofInt a3) (by decide +kernel) (by rfl) ?_
    refine ev_r_virt (pc := 28) (y := 211) (mi := 204) (na := 4) (k := 0) (as := [.int (Int32.ofInt a0), .int (Int32.ofInt a1), .int (Int32.ofInt a2), .int (Int32.ofInt a3)]) (rest := []) (encc := ev_oI) (Q := ev_rng) (fun x S1 h => jt_204 d (by omega) Q a0 a1 a2 a3 ha0 ha1 ha2 ha3 s1 x S1 h) (by exact ev_ob_0) (by decide +kernel) (by decide +kernel) (by decide +kernel) (by decide +kernel) rfl (by (try simp only [ev_sum, ev_nv_cat]); first | done | rfl) ?_
    intro x5 s4 hx5
    show ev_w _ _ _ _ _ [.int (Int32.ofInt x5)] _ _ _ _
    exact ev_r_ireturn (pc := 31) (x := (Sum.inl x5 : Int ⊕ String)) (v := Int32.ofInt x5) (ty := .int) hx5 (by decide +kernel) (by decide +kernel) rfl rfl
  · intro c3
    exact ev_r_throw (pc := 12) (x := (Sum.inr "java/lang/IndexOutOfBoundsException" : Int ⊕ String)) (y := 160) (E := "java/lang/IndexOutOfBoundsException") trivial (by decide +kernel) (by decide +kernel) (by decide +kernel) (Nat.ble_eq.mpr (by omega)) rfl
/-- MendBench.anew(IIII)I -/
def jm_177 (Q : Nat) (a0 : Int) (a1 : Int) (a2 : Int) (a3 : Int) (S : ev_St) : Option ((Int ⊕ String) × ev_St) := ev_bd (jm_203 Q a0 a1 a2 a3 S) fun x2 s1 => if x2 ≠ 0 then (ev_bd (jm_204 Q a0 a1 a2 a3 s1) fun x5 s4 => some ((Sum.inl x5 : Int ⊕ String), s4)) else (some (.inr "java/lang/IndexOutOfBoundsException", ev_tick s1))
theorem jt_177 (d : Nat) (hd : 8 ≤ d) (Q : Nat) (a0 : Int) (a1 : Int) (a2 : Int) (a3 : Int) (ha0 : ev_rng a0) (ha1 : ev_rng a1) (ha2 : ev_rng a2) (ha3 : ev_rng a3) (S : ev_St) (x : Int ⊕ String) (S' : ev_St) (hJ : jm_177 Q a0 a1 a2 a3 S = some (x, S')) : ev_Ref d 177 [.ref 0, .int (Int32.ofInt a0), .int (Int32.ofInt a1), .int (Int32.ofInt a2), .int (Int32.ofInt a3)] S (ev_eX x) S' (ev_PX x) := by
  obtain ⟨d, rfl⟩ : ∃ e, d = e + 1 := ⟨d - 1, by omega⟩
  refine ev_ref_of (P := ev_PX) (lv := [(0, .ref 0), (1, .int (Int32.ofInt a0)), (2, .int (Int32.ofInt a1)), (3, .int (Int32.ofInt a2)), (4, .int (Int32.ofInt a3))]) (by decide +kernel) (by (try simp only [ev_sum, ev_nv_cat]); first | done | rfl) (by (try simp only [lv_args, ev_nv_cat]); first | done | rfl) ?_ x S' hJ
  unfold jm_177
  refine ev_r_aload_n (pc := 0) (k := 0) (v := .ref 0) trivial (by decide +kernel) (by rfl) ?_
  refine ev_r_iload_n (pc := 1) (k := 1) (v := Int32.ofInt a0) (by decide +kernel) (by rfl) ?_
  refine ev_r_iload_n (pc := 2) (k := 2) (v := Int32.ofInt a1) (by decide +kernel) (by rfl) ?_
  refine ev_r_iload_n (pc := 3) (k := 3) (v := Int32.ofInt a2) (by decide +kernel) (by rfl) ?_
  refine ev_r_iload (pc := 4) (k := 4) (v := Int32.ofInt a3) (by decide +kernel) (by rfl) ?_
  refine ev_r_virt (pc := 6) (y := 205) (mi := 203) (na := 4) (k := 0) (as := [.int (Int32.ofInt a0), .int (Int32.ofInt a1), .int (Int32.ofInt a2), .int (Int32.ofInt a3)]) (rest := []) (encc := ev_oI) (Q := ev_bl) (fun x S1 h => jt_203 d (by omega) Q a0 a1 a2 a3 ha0 ha1 ha2 ha3 S x S1 h) (by exact ev_ob_0) (by decide +kernel) (by decide +kernel) (by decide +kernel) (by decide +kernel) rfl (by (try simp only [ev_sum, ev_nv_cat]); first | done | rfl) ?_
  intro x2 s1 hx2
  replace hx2 := ev_bl_rng hx2
  show ev_w _ _ _ _ _ [.int (Int32.ofInt x2)] _ _ _ _
  refine ev_r_if (pc := 9) (q := .ne) (o := 13) (t := 22) (c := x2 ≠ 0) (by decide +kernel) (ev_k_ne hx2 ev_rng0) (by decide +kernel) ?_ ?_
  · intro c3
    refine ev_r_aload_n (pc := 22) (k := 0) (v := .ref 0) trivial (by decide +kernel) (by rfl) ?_
    refine ev_r_iload_n (pc := 23) (k := 1) (v := Int32.ofInt a0) (by decide +kernel) (by rfl) ?_
    refine ev_r_iload_n (pc := 24) (k := 2) (v := Int32.ofInt a1) (by decide +kernel) (by rfl) ?_
    refine ev_r_iload_n (pc := 25) (k := 3) (v := Int32.ofInt a2) (by decide +kernel) (by rfl) ?_
    refine ev_r_iload (pc := 26) (k := 4) (v := Int32.ofInt a3) (by decide +kernel) (by rfl) ?_
    refine ev_r_virt (pc := 28) (y := 211) (mi := 204) (na := 4) (k := 0) (as := [.int (Int32.ofInt a0), .int (Int32.ofInt a1), .int (Int32.ofInt a2), .int (Int32.ofInt a3)]) (rest := []) (encc := ev_oI) (Q := ev_rng) (fun x S1 h => jt_204 d (by omega) Q a0 a1 a2 a3 ha0 ha1 ha2 ha3 s1 x S1 h) (by exact ev_ob_0) (by decide +kernel) (by decide +kernel) (by decide +kernel) (by decide +kernel) rfl (by (try simp only [ev_sum, ev_nv_cat]); first | done | rfl) ?_
    intro x5 s4 hx5
    show ev_w _ _ _ _ _ [.int (Int32.ofInt x5)] _ _ _ _
    exact ev_r_ireturn (pc := 31) (x := (Sum.inl x5 : Int ⊕ String)) (v := Int32.ofInt x5) (ty := .int) hx5 (by decide +kernel) (by decide +kernel) rfl rfl
  · intro c3
    exact ev_r_throw (pc := 12) (x := (Sum.inr "java/lang/IndexOutOfBoundsException" : Int ⊕ String)) (y := 160) (E := "java/lang/IndexOutOfBoundsException") trivial (by decide +kernel) (by decide +kernel) (by decide +kernel) (Nat.ble_eq.mpr (by omega)) rfl
/-- MendBench.findThreaded(IIIII)I -/
def jm_205 (Q : Nat) (a0 : Int) (a1 : Int) (a2 : Int) (a3 : Int) (a4 : Int) (S : ev_St) : Option ((Int) × ev_St) := ev_bd (jm_200 Q a1 S) fun r2 s1 => ev_bd (jm_1 Q a2 s1) fun r4 s3 => if (r2 : Nat) = 0 then (some ((-1), s3)) else (if (r4 : Nat) = 0 then (some ((-1), s3)) else (ev_jn (fun (x7 : Int) (s15 : ev_St) => if x7 ≠ 0 then (ev_jn (fun (r17 : Nat) (s23 : ev_St) => ev_bd (jm_157 Q r17 ((((r2 - 1) + 12) + 1)) r4 a3 s23) fun _ s24 => ev_bd (jm_159 Q r17 a4 s24) fun x26 s25 => some (x26, s25)) fun K86 => if a0 ≠ 1 then (K86 294 s15) else (K86 284 s15)) else (some ((-4), s15))) fun K60 => if a0 ≠ 1 then (ev_b (s3.1 ((r2 - 1)) 15) fun x29 => ev_jn (fun  (s37 : ev_St) => K60 0 s37) fun K59 => if x29 = 0 then (K59  s3) else (if a4 ≠ 0 then (K59  s3) else (K60 1 s3))) else (ev_b (s3.1 ((r2 - 1)) 14) fun x40 => K60 x40 s3)))
theorem jt_205 (d : Nat) (hd : 7 ≤ d) (Q : Nat) (a0 : Int) (a1 : Int) (a2 : Int) (a3 : Int) (a4 : Int) (ha0 : ev_rng a0) (ha1 : ev_rng a1) (ha2 : ev_rng a2) (ha3 : ev_rng a3) (ha4 : ev_rng a4) (S : ev_St) (x : Int) (S' : ev_St) (hJ : jm_205 Q a0 a1 a2 a3 a4 S = some (x, S')) : ev_Ref d 205 [.ref 0, .int (Int32.ofInt a0), .int (Int32.ofInt a1), .int (Int32.ofInt a2), .int (Int32.ofInt a3), .int (Int32.ofInt a4)] S (ev_eI x) S' (ev_rng x) := by
  obtain ⟨d, rfl⟩ : ∃ e, d = e + 1 := ⟨d - 1, by omega⟩
  refine ev_ref_of (P := ev_rng) (lv := [(0, .ref 0), (1, .int (Int32.ofInt a0)), (2, .int (Int32.ofInt a1)), (3, .int (Int32.ofInt a2)), (4, .int (Int32.ofInt a3)), (5, .int (Int32.ofInt a4))]) (by decide +kernel) (by (try simp only [ev_sum, ev_nv_cat]); first | done | rfl) (by (try simp only [lv_args, ev_nv_cat]); first | done | rfl) ?_ x S' hJ
  unfold jm_205
  refine ev_r_aload_n (pc := 0) (k := 0) (v := .ref 0) trivial (by decide +kernel) (by rfl) ?_
  refine ev_r_iload_n (pc := 1) (k := 2) (v := Int32.ofInt a1) (by decide +kernel) (by rfl) ?_
  refine ev_r_virt (pc := 2) (y := 156) (mi := 200) (na := 1) (k := 0) (as := [.int (Int32.ofInt a1)]) (rest := []) (encc := ev_oR) (Q := (fun r => r = 0 ∨ ev_isOb (r - 1) 5 = true)) (fun x S1 h => jt_200 d (by omega) Q a1 ha1 S x S1 h) (by exact ev_ob_0) (by decide +kernel) (by decide +kernel) (by decide +kernel) (by decide +kernel) rfl (by (try simp only [ev_sum, ev_nv_cat]); first | done | rfl) ?_
  intro r2 s1 hr2
  show ev_w _ _ _ _ _ [ev_nv r2] _ _ _ _
  refine ev_r_astore (pc := 5) (k := 6) (ev_isR_nv _) (by decide +kernel) (by decide +kernel) rfl ?_
  refine ev_r_aload_n (pc := 7) (k := 0) (v := .ref 0) trivial (by decide +kernel) (by exact (ev_l1 (by rfl) (by decide) (by decide))) ?_
  refine ev_r_getC (pc := 8) (y := 48) (ci := 12) (f := 8) (fin := 1) (k' := 254) (by decide +kernel) (by decide +kernel) (by exact ev_ob_0) rfl rfl ?_
  refine ev_r_iload_n (pc := 11) (k := 3) (v := Int32.ofInt a2) (by decide +kernel) (by exact (ev_l1 (by rfl) (by decide) (by decide))) ?_
  refine ev_r_virt (pc := 12) (y := 221) (mi := 1) (na := 1) (k := 254) (as := [.int (Int32.ofInt a2)]) (rest := []) (encc := ev_oR) (Q := (fun r => r = 0 ∨ ev_isOb (r - 1) 10 = true)) (fun x S1 h => jt_1 d (by omega) Q a2 ha2 s1 x S1 h) (by exact ev_ob_254) (by decide +kernel) (by decide +kernel) (by decide +kernel) (by decide +kernel) rfl (by (try simp only [ev_sum, ev_nv_cat]); first | done | rfl) ?_
  intro r4 s3 hr4
  show ev_w _ _ _ _ _ [ev_nv r4] _ _ _ _
  refine ev_r_astore (pc := 15) (k := 7) (ev_isR_nv _) (by decide +kernel) (by decide +kernel) rfl ?_
  refine ev_r_aload (pc := 17) (k := 6) (v := ev_nv r2) (ev_isR_nv _) (by decide +kernel) (by exact (ev_lk_st1 ev_lk_st1_self (by decide) (ev_nv_cat _))) ?_
  refine ev_r_ifnull (pc := 19) (r := r2) (o := 8) (t := 27) (by decide +kernel) (by decide +kernel) ?_ ?_
  · intro c5
    refine ev_r_iconst (pc := 27) (k := -1) (by decide +kernel) ?_
    exact ev_r_ireturn (pc := 28) (x := (-1)) (v := Int32.ofInt ((-1))) (ty := .int) (by decide) (by decide +kernel) (by decide +kernel) rfl rfl
  · intro c5
    refine ev_r_aload (pc := 22) (k := 7) (v := ev_nv r4) (ev_isR_nv _) (by decide +kernel) (by exact ev_lk_st1_self) ?_
    refine ev_r_ifnonnull (pc := 24) (r := r4) (o := 5) (t := 29) (by decide +kernel) (by decide +kernel) ?_ ?_
    · intro c6
      refine ev_r_iload_n (pc := 29) (k := 1) (v := Int32.ofInt a0) (by decide +kernel) (by exact (ev_l1 (ev_l1 (by rfl) (by decide) (by decide)) (by decide) (by decide))) ?_
      refine ev_r_iconst (pc := 30) (k := 1) (by decide +kernel) ?_
      refine ev_r_jn (Q := fun K => ∀ (x7 : Int) (hx7 : ev_rng x7), ∀ (s15 : ev_St) (w8 : List (Nat × Value)), ev_lk w8 0 = some (.ref 0) → ev_lk w8 1 = some (.int (Int32.ofInt a0)) → ev_lk w8 4 = some (.int (Int32.ofInt a3)) → ev_lk w8 5 = some (.int (Int32.ofInt a4)) → ev_lk w8 6 = some (ev_nv r2) → ev_lk w8 7 = some (ev_nv r4) → ev_w none (ev_Mof 205) d 60 w8 [.int (Int32.ofInt x7)] s15 (K x7 s15) ev_eI ev_rng) ?_ ?_
      · intro x7 hx7 s15 w8 e9 e10 e11 e12 e13 e14
        refine ev_r_istore (pc := 60) (k := 8) (by decide +kernel) (by decide +kernel) rfl ?_
        refine ev_r_iload (pc := 62) (k := 8) (v := Int32.ofInt x7) (by decide +kernel) (by exact ev_lk_st1_self) ?_
        refine ev_r_if (pc := 64) (q := .ne) (o := 6) (t := 70) (c := x7 ≠ 0) (by decide +kernel) (ev_k_ne hx7 ev_rng0) (by decide +kernel) ?_ ?_
        · intro c16
          refine ev_r_iload_n (pc := 70) (k := 1) (v := Int32.ofInt a0) (by decide +kernel) (by exact (ev_l1 e10 (by decide) (by decide))) ?_
          refine ev_r_iconst (pc := 71) (k := 1) (by decide +kernel) ?_
          refine ev_r_jn (Q := fun K => ∀ (r17 : Nat) (hr17 : ev_isOb r17 11 = true), ∀ (s23 : ev_St) (w18 : List (Nat × Value)), ev_lk w18 4 = some (.int (Int32.ofInt a3)) → ev_lk w18 5 = some (.int (Int32.ofInt a4)) → ev_lk w18 6 = some (ev_nv r2) → ev_lk w18 7 = some (ev_nv r4) → ev_w none (ev_Mof 205) d 86 w18 [.ref r17] s23 (K r17 s23) ev_eI ev_rng) ?_ ?_
          · intro r17 hr17 s23 w18 e19 e20 e21 e22
            refine ev_r_astore (pc := 86) (k := 9) trivial (by decide +kernel) (by decide +kernel) rfl ?_
            refine ev_r_aload (pc := 88) (k := 9) (v := .ref r17) trivial (by decide +kernel) (by exact ev_lk_st1_self) ?_
            refine ev_r_aload (pc := 90) (k := 6) (v := ev_nv r2) (ev_isR_nv _) (by decide +kernel) (by exact (ev_l1 e21 (by decide) (by decide))) ?_
            refine ev_r_dr (r := r2) (fun v => [v, .ref r17]) c5 ?_
            refine ev_r_getC (pc := 92) (y := 343) (ci := 5) (f := 13) (fin := 2) (k' := ((r2 - 1) + 12)) (by decide +kernel) (by decide +kernel) (by exact (hr2.resolve_left c5)) rfl rfl ?_
            refine ev_r_aload (pc := 95) (k := 7) (v := ev_nv r4) (ev_isR_nv _) (by decide +kernel) (by exact (ev_l1 e22 (by decide) (by decide))) ?_
            refine ev_r_iload (pc := 97) (k := 4) (v := Int32.ofInt a3) (by decide +kernel) (by exact (ev_l1 e19 (by decide) (by decide))) ?_
            refine ev_r_virt (pc := 99) (y := 376) (mi := 157) (na := 3) (k := r17) (as := [ev_nv ((((r2 - 1) + 12) + 1)), ev_nv r4, .int (Int32.ofInt a3)]) (rest := []) (encc := ev_oU) (Q := ev_PU) (fun x S1 h => jt_157 d (by omega) Q r17 ((((r2 - 1) + 12) + 1)) r4 a3 hr17 (by exact (Or.inr (ev_fo_5_13 (hr2.resolve_left c5)))) (by exact hr4) ha3 s23 x S1 h) (by exact hr17) (by decide +kernel) (by decide +kernel) (by decide +kernel) (by decide +kernel) rfl (by (try simp only [ev_sum, ev_nv_cat]); first | done | rfl) ?_
            intro _ s24 _
            show ev_w _ _ _ _ _ [] _ _ _ _
            refine ev_r_aload (pc := 102) (k := 9) (v := .ref r17) trivial (by decide +kernel) (by exact ev_lk_st1_self) ?_
            refine ev_r_iload (pc := 104) (k := 5) (v := Int32.ofInt a4) (by decide +kernel) (by exact (ev_l1 e20 (by decide) (by decide))) ?_
            refine ev_r_virt (pc := 106) (y := 380) (mi := 159) (na := 1) (k := r17) (as := [.int (Int32.ofInt a4)]) (rest := []) (encc := ev_oI) (Q := ev_rng) (fun x S1 h => jt_159 d (by omega) Q r17 a4 hr17 ha4 s24 x S1 h) (by exact hr17) (by decide +kernel) (by decide +kernel) (by decide +kernel) (by decide +kernel) rfl (by (try simp only [ev_sum, ev_nv_cat]); first | done | rfl) ?_
            intro x26 s25 hx26
            show ev_w _ _ _ _ _ [.int (Int32.ofInt x26)] _ _ _ _
            exact ev_r_ireturn (pc := 109) (x := x26) (v := Int32.ofInt x26) (ty := .int) hx26 (by decide +kernel) (by decide +kernel) rfl rfl
          · intro K86 hK86
            refine ev_r_icmp (pc := 72) (q := .ne) (o := 10) (t := 82) (c := a0 ≠ 1) (by decide +kernel) (ev_k_ne ha0 (by decide)) (by decide +kernel) ?_ ?_
            · intro c27
              refine ev_r_aload_n (pc := 82) (k := 0) (v := .ref 0) trivial (by decide +kernel) (by exact (ev_l1 e9 (by decide) (by decide))) ?_
              refine ev_r_getC (pc := 83) (y := 75) (ci := 12) (f := 12) (fin := 1) (k' := 294) (by decide +kernel) (by decide +kernel) (by exact ev_ob_0) rfl rfl ?_
              exact hK86 294 ev_ob_294 s15 _ (by exact (ev_l1 e11 (by decide) (by decide))) (by exact (ev_l1 e12 (by decide) (by decide))) (by exact (ev_l1 e13 (by decide) (by decide))) (by exact (ev_lk_st1 e14 (by decide) (ev_nv_cat _)))
            · intro c27
              refine ev_r_aload_n (pc := 75) (k := 0) (v := .ref 0) trivial (by decide +kernel) (by exact (ev_l1 e9 (by decide) (by decide))) ?_
              refine ev_r_getC (pc := 76) (y := 71) (ci := 12) (f := 11) (fin := 1) (k' := 284) (by decide +kernel) (by decide +kernel) (by exact ev_ob_0) rfl rfl ?_
              refine ev_r_goto (pc := 79) (o := 7) (t := 86) (by decide +kernel) (by decide +kernel) ?_
              exact hK86 284 ev_ob_284 s15 _ (by exact (ev_l1 e11 (by decide) (by decide))) (by exact (ev_l1 e12 (by decide) (by decide))) (by exact (ev_l1 e13 (by decide) (by decide))) (by exact (ev_lk_st1 e14 (by decide) (ev_nv_cat _)))
        · intro c16
          refine ev_r_bipush (pc := 67) (k := -4) (by decide +kernel) (by decide +kernel) ?_
          exact ev_r_ireturn (pc := 69) (x := (-4)) (v := Int32.ofInt ((-4))) (ty := .int) (by decide) (by decide +kernel) (by decide +kernel) rfl rfl
      · intro K60 hK60
        refine ev_r_icmp (pc := 31) (q := .ne) (o := 11) (t := 42) (c := a0 ≠ 1) (by decide +kernel) (ev_k_ne ha0 (by decide)) (by decide +kernel) ?_ ?_
        · intro c28
          refine ev_r_aload (pc := 42) (k := 6) (v := ev_nv r2) (ev_isR_nv _) (by decide +kernel) (by exact (ev_lk_st1 ev_lk_st1_self (by decide) (ev_nv_cat _))) ?_
          refine ev_r_dr (r := r2) (fun v => [v]) c5 ?_
          refine ev_r_getI (pc := 44) (y := 172) (ci := 5) (f := 15) (fin := 0) (by decide +kernel) (by decide +kernel) (by exact (hr2.resolve_left c5)) rfl ?_
          intro x29 hx29
          refine ev_r_jn (Q := fun K => ∀ (s37 : ev_St) (w30 : List (Nat × Value)), ev_lk w30 0 = some (.ref 0) → ev_lk w30 1 = some (.int (Int32.ofInt a0)) → ev_lk w30 4 = some (.int (Int32.ofInt a3)) → ev_lk w30 5 = some (.int (Int32.ofInt a4)) → ev_lk w30 6 = some (ev_nv r2) → ev_lk w30 7 = some (ev_nv r4) → ev_w none (ev_Mof 205) d 59 w30 [] s37 (K  s37) ev_eI ev_rng) ?_ ?_
          · intro  s37 w30 e31 e32 e33 e34 e35 e36
            refine ev_r_iconst (pc := 59) (k := 0) (by decide +kernel) ?_
            exact hK60 0 (by decide) s37 _ (by exact e31) (by exact e32) (by exact e33) (by exact e34) (by exact e35) (by exact e36)
          · intro K59 hK59
            refine ev_r_if (pc := 47) (q := .eq) (o := 12) (t := 59) (c := x29 = 0) (by decide +kernel) (ev_k_eq hx29 ev_rng0) (by decide +kernel) ?_ ?_
            · intro c38
              exact hK59  s3 _ (by exact (ev_l1 (ev_l1 (by rfl) (by decide) (by decide)) (by decide) (by decide))) (by exact (ev_l1 (ev_l1 (by rfl) (by decide) (by decide)) (by decide) (by decide))) (by exact (ev_l1 (ev_l1 (by rfl) (by decide) (by decide)) (by decide) (by decide))) (by exact (ev_l1 (ev_lk_st1 (by rfl) (by decide) rfl) (by decide) (by decide))) (by exact (ev_lk_st1 ev_lk_st1_self (by decide) (ev_nv_cat _))) (by exact ev_lk_st1_self)
            · intro c38
              refine ev_r_iload (pc := 50) (k := 5) (v := Int32.ofInt a4) (by decide +kernel) (by exact (ev_l1 (ev_lk_st1 (by rfl) (by decide) rfl) (by decide) (by decide))) ?_
              refine ev_r_if (pc := 52) (q := .ne) (o := 7) (t := 59) (c := a4 ≠ 0) (by decide +kernel) (ev_k_ne ha4 ev_rng0) (by decide +kernel) ?_ ?_
              · intro c39
                exact hK59  s3 _ (by exact (ev_l1 (ev_l1 (by rfl) (by decide) (by decide)) (by decide) (by decide))) (by exact (ev_l1 (ev_l1 (by rfl) (by decide) (by decide)) (by decide) (by decide))) (by exact (ev_l1 (ev_l1 (by rfl) (by decide) (by decide)) (by decide) (by decide))) (by exact (ev_l1 (ev_lk_st1 (by rfl) (by decide) rfl) (by decide) (by decide))) (by exact (ev_lk_st1 ev_lk_st1_self (by decide) (ev_nv_cat _))) (by exact ev_lk_st1_self)
              · intro c39
                refine ev_r_iconst (pc := 55) (k := 1) (by decide +kernel) ?_
                refine ev_r_goto (pc := 56) (o := 4) (t := 60) (by decide +kernel) (by decide +kernel) ?_
                exact hK60 1 (by decide) s3 _ (by exact (ev_l1 (ev_l1 (by rfl) (by decide) (by decide)) (by decide) (by decide))) (by exact (ev_l1 (ev_l1 (by rfl) (by decide) (by decide)) (by decide) (by decide))) (by exact (ev_l1 (ev_l1 (by rfl) (by decide) (by decide)) (by decide) (by decide))) (by exact (ev_l1 (ev_lk_st1 (by rfl) (by decide) rfl) (by decide) (by decide))) (by exact (ev_lk_st1 ev_lk_st1_self (by decide) (ev_nv_cat _))) (by exact ev_lk_st1_self)
        · intro c28
          refine ev_r_aload (pc := 34) (k := 6) (v := ev_nv r2) (ev_isR_nv _) (by decide +kernel) (by exact (ev_lk_st1 ev_lk_st1_self (by decide) (ev_nv_cat _))) ?_
          refine ev_r_dr (r := r2) (fun v => [v]) c5 ?_
          refine ev_r_getI (pc := 36) (y := 168) (ci := 5) (f := 14) (fin := 0) (by decide +kernel) (by decide +kernel) (by exact (hr2.resolve_left c5)) rfl ?_
          intro x40 hx40
          refine ev_r_goto (pc := 39) (o := 21) (t := 60) (by decide +kernel) (by decide +kernel) ?_
          exact hK60 x40 hx40 s3 _ (by exact (ev_l1 (ev_l1 (by rfl) (by decide) (by decide)) (by decide) (by decide))) (by exact (ev_l1 (ev_l1 (by rfl) (by decide) (by decide)) (by decide) (by decide))) (by exact (ev_l1 (ev_l1 (by rfl) (by decide) (by decide)) (by decide) (by decide))) (by exact (ev_l1 (ev_lk_st1 (by rfl) (by decide) rfl) (by decide) (by decide))) (by exact (ev_lk_st1 ev_lk_st1_self (by decide) (ev_nv_cat _))) (by exact ev_lk_st1_self)
    · intro c6
      refine ev_r_iconst (pc := 27) (k := -1) (by decide +kernel) ?_
      exact ev_r_ireturn (pc := 28) (x := (-1)) (v := Int32.ofInt ((-1))) (ty := .int) (by decide) (by decide +kernel) (by decide +kernel) rfl rfl
/-- MendBench.by(IIIII)I -/
def jm_178 (Q : Nat) (a0 : Int) (a1 : Int) (a2 : Int) (a3 : Int) (a4 : Int) (S : ev_St) : Option ((Int ⊕ String) × ev_St) := ev_bd (jm_203 Q a1 a2 a3 a4 S) fun x2 s1 => if x2 ≠ 0 then (if a0 < 0 then (some (.inr "java/lang/IllegalArgumentException", ev_tick s1)) else (if a0 ≤ 2 then (if a0 ≠ 0 then (ev_bd (jm_205 Q a0 a1 a2 a3 a4 s1) fun x8 s7 => some ((Sum.inl x8 : Int ⊕ String), s7)) else (ev_bd (jm_204 Q a1 a2 a3 a4 s1) fun x10 s9 => some ((Sum.inl x10 : Int ⊕ String), s9))) else (some (.inr "java/lang/IllegalArgumentException", ev_tick s1)))) else (some (.inr "java/lang/IndexOutOfBoundsException", ev_tick s1))
theorem jt_178 (d : Nat) (hd : 8 ≤ d) (Q : Nat) (a0 : Int) (a1 : Int) (a2 : Int) (a3 : Int) (a4 : Int) (ha0 : ev_rng a0) (ha1 : ev_rng a1) (ha2 : ev_rng a2) (ha3 : ev_rng a3) (ha4 : ev_rng a4) (S : ev_St) (x : Int ⊕ String) (S' : ev_St) (hJ : jm_178 Q a0 a1 a2 a3 a4 S = some (x, S')) : ev_Ref d 178 [.ref 0, .int (Int32.ofInt a0), .int (Int32.ofInt a1), .int (Int32.ofInt a2), .int (Int32.ofInt a3), .int (Int32.ofInt a4)] S (ev_eX x) S' (ev_PX x) := by
  obtain ⟨d, rfl⟩ : ∃ e, d = e + 1 := ⟨d - 1, by omega⟩
  refine ev_ref_of (P := ev_PX) (lv := [(0, .ref 0), (1, .int (Int32.ofInt a0)), (2, .int (Int32.ofInt a1)), (3, .int (Int32.ofInt a2)), (4, .int (Int32.ofInt a3)), (5, .int (Int32.ofInt a4))]) (by decide +kernel) (by (try simp only [ev_sum, ev_nv_cat]); first | done | rfl) (by (try simp only [lv_args, ev_nv_cat]); first | done | rfl) ?_ x S' hJ
  unfold jm_178
  refine ev_r_aload_n (pc := 0) (k := 0) (v := .ref 0) trivial (by decide +kernel) (by rfl) ?_
  refine ev_r_iload_n (pc := 1) (k := 2) (v := Int32.ofInt a1) (by decide +kernel) (by rfl) ?_
  refine ev_r_iload_n (pc := 2) (k := 3) (v := Int32.ofInt a2) (by decide +kernel) (by rfl) ?_
  refine ev_r_iload (pc := 3) (k := 4) (v := Int32.ofInt a3) (by decide +kernel) (by rfl) ?_
  refine ev_r_iload (pc := 5) (k := 5) (v := Int32.ofInt a4) (by decide +kernel) (by rfl) ?_
  refine ev_r_virt (pc := 7) (y := 205) (mi := 203) (na := 4) (k := 0) (as := [.int (Int32.ofInt a1), .int (Int32.ofInt a2), .int (Int32.ofInt a3), .int (Int32.ofInt a4)]) (rest := []) (encc := ev_oI) (Q := ev_bl) (fun x S1 h => jt_203 d (by omega) Q a1 a2 a3 a4 ha1 ha2 ha3 ha4 S x S1 h) (by exact ev_ob_0) (by decide +kernel) (by decide +kernel) (by decide +kernel) (by decide +kernel) rfl (by (try simp only [ev_sum, ev_nv_cat]); first | done | rfl) ?_
  intro x2 s1 hx2
  replace hx2 := ev_bl_rng hx2
  show ev_w _ _ _ _ _ [.int (Int32.ofInt x2)] _ _ _ _
  refine ev_r_if (pc := 10) (q := .ne) (o := 13) (t := 23) (c := x2 ≠ 0) (by decide +kernel) (ev_k_ne hx2 ev_rng0) (by decide +kernel) ?_ ?_
  · intro c3
    refine ev_r_iload_n (pc := 23) (k := 1) (v := Int32.ofInt a0) (by decide +kernel) (by rfl) ?_
    refine ev_r_if (pc := 24) (q := .lt) (o := 8) (t := 32) (c := a0 < 0) (by decide +kernel) (ev_k_lt ha0 ev_rng0) (by decide +kernel) ?_ ?_
    · intro c4
      exact ev_r_throw (pc := 32) (x := (Sum.inr "java/lang/IllegalArgumentException" : Int ⊕ String)) (y := 98) (E := "java/lang/IllegalArgumentException") trivial (by decide +kernel) (by decide +kernel) (by decide +kernel) (Nat.ble_eq.mpr (by omega)) rfl
    · intro c4
      refine ev_r_iload_n (pc := 27) (k := 1) (v := Int32.ofInt a0) (by decide +kernel) (by rfl) ?_
      refine ev_r_iconst (pc := 28) (k := 2) (by decide +kernel) ?_
      refine ev_r_icmp (pc := 29) (q := .le) (o := 13) (t := 42) (c := a0 ≤ 2) (by decide +kernel) (ev_k_le ha0 (by decide)) (by decide +kernel) ?_ ?_
      · intro c5
        refine ev_r_iload_n (pc := 42) (k := 1) (v := Int32.ofInt a0) (by decide +kernel) (by rfl) ?_
        refine ev_r_if (pc := 43) (q := .ne) (o := 14) (t := 57) (c := a0 ≠ 0) (by decide +kernel) (ev_k_ne ha0 ev_rng0) (by decide +kernel) ?_ ?_
        · intro c6
          refine ev_r_aload_n (pc := 57) (k := 0) (v := .ref 0) trivial (by decide +kernel) (by rfl) ?_
          refine ev_r_iload_n (pc := 58) (k := 1) (v := Int32.ofInt a0) (by decide +kernel) (by rfl) ?_
          refine ev_r_iload_n (pc := 59) (k := 2) (v := Int32.ofInt a1) (by decide +kernel) (by rfl) ?_
          refine ev_r_iload_n (pc := 60) (k := 3) (v := Int32.ofInt a2) (by decide +kernel) (by rfl) ?_
          refine ev_r_iload (pc := 61) (k := 4) (v := Int32.ofInt a3) (by decide +kernel) (by rfl) ?_
          refine ev_r_iload (pc := 63) (k := 5) (v := Int32.ofInt a4) (by decide +kernel) (by rfl) ?_
          refine ev_r_virt (pc := 65) (y := 217) (mi := 205) (na := 5) (k := 0) (as := [.int (Int32.ofInt a0), .int (Int32.ofInt a1), .int (Int32.ofInt a2), .int (Int32.ofInt a3), .int (Int32.ofInt a4)]) (rest := []) (encc := ev_oI) (Q := ev_rng) (fun x S1 h => jt_205 d (by omega) Q a0 a1 a2 a3 a4 ha0 ha1 ha2 ha3 ha4 s1 x S1 h) (by exact ev_ob_0) (by decide +kernel) (by decide +kernel) (by decide +kernel) (by decide +kernel) rfl (by (try simp only [ev_sum, ev_nv_cat]); first | done | rfl) ?_
          intro x8 s7 hx8
          show ev_w _ _ _ _ _ [.int (Int32.ofInt x8)] _ _ _ _
          exact ev_r_ireturn (pc := 68) (x := (Sum.inl x8 : Int ⊕ String)) (v := Int32.ofInt x8) (ty := .int) hx8 (by decide +kernel) (by decide +kernel) rfl rfl
        · intro c6
          refine ev_r_aload_n (pc := 46) (k := 0) (v := .ref 0) trivial (by decide +kernel) (by rfl) ?_
          refine ev_r_iload_n (pc := 47) (k := 2) (v := Int32.ofInt a1) (by decide +kernel) (by rfl) ?_
          refine ev_r_iload_n (pc := 48) (k := 3) (v := Int32.ofInt a2) (by decide +kernel) (by rfl) ?_
          refine ev_r_iload (pc := 49) (k := 4) (v := Int32.ofInt a3) (by decide +kernel) (by rfl) ?_
          refine ev_r_iload (pc := 51) (k := 5) (v := Int32.ofInt a4) (by decide +kernel) (by rfl) ?_
          refine ev_r_virt (pc := 53) (y := 211) (mi := 204) (na := 4) (k := 0) (as := [.int (Int32.ofInt a1), .int (Int32.ofInt a2), .int (Int32.ofInt a3), .int (Int32.ofInt a4)]) (rest := []) (encc := ev_oI) (Q := ev_rng) (fun x S1 h => jt_204 d (by omega) Q a1 a2 a3 a4 ha1 ha2 ha3 ha4 s1 x S1 h) (by exact ev_ob_0) (by decide +kernel) (by decide +kernel) (by decide +kernel) (by decide +kernel) rfl (by (try simp only [ev_sum, ev_nv_cat]); first | done | rfl) ?_
          intro x10 s9 hx10
          show ev_w _ _ _ _ _ [.int (Int32.ofInt x10)] _ _ _ _
          exact ev_r_ireturn (pc := 56) (x := (Sum.inl x10 : Int ⊕ String)) (v := Int32.ofInt x10) (ty := .int) hx10 (by decide +kernel) (by decide +kernel) rfl rfl
      · intro c5
        exact ev_r_throw (pc := 32) (x := (Sum.inr "java/lang/IllegalArgumentException" : Int ⊕ String)) (y := 98) (E := "java/lang/IllegalArgumentException") trivial (by decide +kernel) (by decide +kernel) (by decide +kernel) (Nat.ble_eq.mpr (by omega)) rfl
  · intro c3
    exact ev_r_throw (pc := 13) (x := (Sum.inr "java/lang/IndexOutOfBoundsException" : Int ⊕ String)) (y := 160) (E := "java/lang/IndexOutOfBoundsException") trivial (by decide +kernel) (by decide +kernel) (by decide +kernel) (Nat.ble_eq.mpr (by omega)) rfl
/-- MendBench.steps(III)I -/
def jm_179 (Q : Nat) (a0 : Int) (a1 : Int) (a2 : Int) (S : ev_St) : Option ((Int ⊕ String) × ev_St) := ev_bd (jm_200 Q a0 S) fun r2 s1 => ev_bd (jm_1 Q a1 s1) fun r4 s3 => if (r2 : Nat) = 0 then (some (.inr "java/lang/IndexOutOfBoundsException", ev_tick s3)) else (if (r4 : Nat) = 0 then (some (.inr "java/lang/IndexOutOfBoundsException", ev_tick s3)) else (if a2 < 0 then (some (.inr "java/lang/IndexOutOfBoundsException", ev_tick s3)) else (ev_b (s3.1 ((r4 - 1)) 1) fun x8 => if a2 ≤ x8 then (ev_bd (jm_115 Q r2 r4 a2 s3) fun x11 s10 => if x11 ≠ (-2) then (ev_b (s10.1 281 14) fun x13 => some ((Sum.inl x13 : Int ⊕ String), s10)) else (some ((Sum.inl ((-2)) : Int ⊕ String), s10))) else (some (.inr "java/lang/IndexOutOfBoundsException", ev_tick s3)))))
theorem jt_179 (d : Nat) (hd : 7 ≤ d) (Q : Nat) (a0 : Int) (a1 : Int) (a2 : Int) (ha0 : ev_rng a0) (ha1 : ev_rng a1) (ha2 : ev_rng a2) (S : ev_St) (x : Int ⊕ String) (S' : ev_St) (hJ : jm_179 Q a0 a1 a2 S = some (x, S')) : ev_Ref d 179 [.ref 0, .int (Int32.ofInt a0), .int (Int32.ofInt a1), .int (Int32.ofInt a2)] S (ev_eX x) S' (ev_PX x) := by
  obtain ⟨d, rfl⟩ : ∃ e, d = e + 1 := ⟨d - 1, by omega⟩
  refine ev_ref_of (P := ev_PX) (lv := [(0, .ref 0), (1, .int (Int32.ofInt a0)), (2, .int (Int32.ofInt a1)), (3, .int (Int32.ofInt a2))]) (by decide +kernel) (by (try simp only [ev_sum, ev_nv_cat]); first | done | rfl) (by (try simp only [lv_args, ev_nv_cat]); first | done | rfl) ?_ x S' hJ
  unfold jm_179
  refine ev_r_aload_n (pc := 0) (k := 0) (v := .ref 0) trivial (by decide +kernel) (by rfl) ?_
  refine ev_r_iload_n (pc := 1) (k := 1) (v := Int32.ofInt a0) (by decide +kernel) (by rfl) ?_
  refine ev_r_virt (pc := 2) (y := 156) (mi := 200) (na := 1) (k := 0) (as := [.int (Int32.ofInt a0)]) (rest := []) (encc := ev_oR) (Q := (fun r => r = 0 ∨ ev_isOb (r - 1) 5 = true)) (fun x S1 h => jt_200 d (by omega) Q a0 ha0 S x S1 h) (by exact ev_ob_0) (by decide +kernel) (by decide +kernel) (by decide +kernel) (by decide +kernel) rfl (by (try simp only [ev_sum, ev_nv_cat]); first | done | rfl) ?_
  intro r2 s1 hr2
  show ev_w _ _ _ _ _ [ev_nv r2] _ _ _ _
  refine ev_r_astore (pc := 5) (k := 4) (ev_isR_nv _) (by decide +kernel) (by decide +kernel) rfl ?_
  refine ev_r_aload_n (pc := 7) (k := 0) (v := .ref 0) trivial (by decide +kernel) (by exact (ev_l1 (by rfl) (by decide) (by decide))) ?_
  refine ev_r_getC (pc := 8) (y := 48) (ci := 12) (f := 8) (fin := 1) (k' := 254) (by decide +kernel) (by decide +kernel) (by exact ev_ob_0) rfl rfl ?_
  refine ev_r_iload_n (pc := 11) (k := 2) (v := Int32.ofInt a1) (by decide +kernel) (by exact (ev_l1 (by rfl) (by decide) (by decide))) ?_
  refine ev_r_virt (pc := 12) (y := 221) (mi := 1) (na := 1) (k := 254) (as := [.int (Int32.ofInt a1)]) (rest := []) (encc := ev_oR) (Q := (fun r => r = 0 ∨ ev_isOb (r - 1) 10 = true)) (fun x S1 h => jt_1 d (by omega) Q a1 ha1 s1 x S1 h) (by exact ev_ob_254) (by decide +kernel) (by decide +kernel) (by decide +kernel) (by decide +kernel) rfl (by (try simp only [ev_sum, ev_nv_cat]); first | done | rfl) ?_
  intro r4 s3 hr4
  show ev_w _ _ _ _ _ [ev_nv r4] _ _ _ _
  refine ev_r_astore (pc := 15) (k := 5) (ev_isR_nv _) (by decide +kernel) (by decide +kernel) rfl ?_
  refine ev_r_aload (pc := 17) (k := 4) (v := ev_nv r2) (ev_isR_nv _) (by decide +kernel) (by exact (ev_lk_st1 ev_lk_st1_self (by decide) (ev_nv_cat _))) ?_
  refine ev_r_ifnull (pc := 19) (r := r2) (o := 21) (t := 40) (by decide +kernel) (by decide +kernel) ?_ ?_
  · intro c5
    exact ev_r_throw (pc := 40) (x := (Sum.inr "java/lang/IndexOutOfBoundsException" : Int ⊕ String)) (y := 160) (E := "java/lang/IndexOutOfBoundsException") trivial (by decide +kernel) (by decide +kernel) (by decide +kernel) (Nat.ble_eq.mpr (by omega)) rfl
  · intro c5
    refine ev_r_aload (pc := 22) (k := 5) (v := ev_nv r4) (ev_isR_nv _) (by decide +kernel) (by exact ev_lk_st1_self) ?_
    refine ev_r_ifnull (pc := 24) (r := r4) (o := 16) (t := 40) (by decide +kernel) (by decide +kernel) ?_ ?_
    · intro c6
      exact ev_r_throw (pc := 40) (x := (Sum.inr "java/lang/IndexOutOfBoundsException" : Int ⊕ String)) (y := 160) (E := "java/lang/IndexOutOfBoundsException") trivial (by decide +kernel) (by decide +kernel) (by decide +kernel) (Nat.ble_eq.mpr (by omega)) rfl
    · intro c6
      refine ev_r_iload_n (pc := 27) (k := 3) (v := Int32.ofInt a2) (by decide +kernel) (by exact (ev_l1 (ev_lk_st1 (by rfl) (by decide) rfl) (by decide) (by decide))) ?_
      refine ev_r_if (pc := 28) (q := .lt) (o := 12) (t := 40) (c := a2 < 0) (by decide +kernel) (ev_k_lt ha2 ev_rng0) (by decide +kernel) ?_ ?_
      · intro c7
        exact ev_r_throw (pc := 40) (x := (Sum.inr "java/lang/IndexOutOfBoundsException" : Int ⊕ String)) (y := 160) (E := "java/lang/IndexOutOfBoundsException") trivial (by decide +kernel) (by decide +kernel) (by decide +kernel) (Nat.ble_eq.mpr (by omega)) rfl
      · intro c7
        refine ev_r_iload_n (pc := 31) (k := 3) (v := Int32.ofInt a2) (by decide +kernel) (by exact (ev_l1 (ev_lk_st1 (by rfl) (by decide) rfl) (by decide) (by decide))) ?_
        refine ev_r_aload (pc := 32) (k := 5) (v := ev_nv r4) (ev_isR_nv _) (by decide +kernel) (by exact ev_lk_st1_self) ?_
        refine ev_r_dr (r := r4) (fun v => [v, .int (Int32.ofInt a2)]) c6 ?_
        refine ev_r_getI (pc := 34) (y := 105) (ci := 10) (f := 1) (fin := 0) (by decide +kernel) (by decide +kernel) (by exact (hr4.resolve_left c6)) rfl ?_
        intro x8 hx8
        refine ev_r_icmp (pc := 37) (q := .le) (o := 13) (t := 50) (c := a2 ≤ x8) (by decide +kernel) (ev_k_le ha2 hx8) (by decide +kernel) ?_ ?_
        · intro c9
          refine ev_r_aload_n (pc := 50) (k := 0) (v := .ref 0) trivial (by decide +kernel) (by exact (ev_l1 (ev_l1 (by rfl) (by decide) (by decide)) (by decide) (by decide))) ?_
          refine ev_r_getC (pc := 51) (y := 62) (ci := 12) (f := 10) (fin := 1) (k' := 281) (by decide +kernel) (by decide +kernel) (by exact ev_ob_0) rfl rfl ?_
          refine ev_r_aload (pc := 54) (k := 4) (v := ev_nv r2) (ev_isR_nv _) (by decide +kernel) (by exact (ev_lk_st1 ev_lk_st1_self (by decide) (ev_nv_cat _))) ?_
          refine ev_r_aload (pc := 56) (k := 5) (v := ev_nv r4) (ev_isR_nv _) (by decide +kernel) (by exact ev_lk_st1_self) ?_
          refine ev_r_iload_n (pc := 58) (k := 3) (v := Int32.ofInt a2) (by decide +kernel) (by exact (ev_l1 (ev_lk_st1 (by rfl) (by decide) rfl) (by decide) (by decide))) ?_
          refine ev_r_virt (pc := 59) (y := 227) (mi := 115) (na := 3) (k := 281) (as := [ev_nv r2, ev_nv r4, .int (Int32.ofInt a2)]) (rest := []) (encc := ev_oI) (Q := ev_rng) (fun x S1 h => jt_115 d (by omega) Q r2 r4 a2 (by exact hr2) (by exact hr4) ha2 s3 x S1 h) (by exact ev_ob_281) (by decide +kernel) (by decide +kernel) (by decide +kernel) (by decide +kernel) rfl (by (try simp only [ev_sum, ev_nv_cat]); first | done | rfl) ?_
          intro x11 s10 hx11
          show ev_w _ _ _ _ _ [.int (Int32.ofInt x11)] _ _ _ _
          refine ev_r_bipush (pc := 62) (k := -2) (by decide +kernel) (by decide +kernel) ?_
          refine ev_r_icmp (pc := 64) (q := .ne) (o := 8) (t := 72) (c := x11 ≠ (-2)) (by decide +kernel) (ev_k_ne hx11 (by decide)) (by decide +kernel) ?_ ?_
          · intro c12
            refine ev_r_aload_n (pc := 72) (k := 0) (v := .ref 0) trivial (by decide +kernel) (by exact (ev_l1 (ev_l1 (by rfl) (by decide) (by decide)) (by decide) (by decide))) ?_
            refine ev_r_getC (pc := 73) (y := 62) (ci := 12) (f := 10) (fin := 1) (k' := 281) (by decide +kernel) (by decide +kernel) (by exact ev_ob_0) rfl rfl ?_
            refine ev_r_getI (pc := 76) (y := 231) (ci := 8) (f := 14) (fin := 0) (by decide +kernel) (by decide +kernel) (by exact ev_ob_281) rfl ?_
            intro x13 hx13
            exact ev_r_ireturn (pc := 79) (x := (Sum.inl x13 : Int ⊕ String)) (v := Int32.ofInt x13) (ty := .int) hx13 (by decide +kernel) (by decide +kernel) rfl rfl
          · intro c12
            refine ev_r_bipush (pc := 67) (k := -2) (by decide +kernel) (by decide +kernel) ?_
            refine ev_r_goto (pc := 69) (o := 10) (t := 79) (by decide +kernel) (by decide +kernel) ?_
            exact ev_r_ireturn (pc := 79) (x := (Sum.inl ((-2)) : Int ⊕ String)) (v := Int32.ofInt ((-2))) (ty := .int) (show ev_rng ((-2)) by decide) (by decide +kernel) (by decide +kernel) rfl rfl
        · intro c9
          exact ev_r_throw (pc := 40) (x := (Sum.inr "java/lang/IndexOutOfBoundsException" : Int ⊕ String)) (y := 160) (E := "java/lang/IndexOutOfBoundsException") trivial (by decide +kernel) (by decide +kernel) (by decide +kernel) (Nat.ble_eq.mpr (by omega)) rfl
/-- MendBench.back(III)I -/
def jm_180 (Q : Nat) (a0 : Int) (a1 : Int) (a2 : Int) (S : ev_St) : Option ((Int ⊕ String) × ev_St) := ev_bd (jm_200 Q a0 S) fun r2 s1 => ev_bd (jm_1 Q a1 s1) fun r4 s3 => if (r2 : Nat) = 0 then (some (.inr "java/lang/IndexOutOfBoundsException", ev_tick s3)) else (if (r4 : Nat) = 0 then (some (.inr "java/lang/IndexOutOfBoundsException", ev_tick s3)) else (if a2 < 0 then (some (.inr "java/lang/IndexOutOfBoundsException", ev_tick s3)) else (ev_b (s3.1 ((r4 - 1)) 1) fun x8 => if a2 ≤ x8 then (ev_bd (jm_116 Q r2 r4 a2 s3) fun x11 s10 => some ((Sum.inl x11 : Int ⊕ String), s10)) else (some (.inr "java/lang/IndexOutOfBoundsException", ev_tick s3)))))
theorem jt_180 (d : Nat) (hd : 7 ≤ d) (Q : Nat) (a0 : Int) (a1 : Int) (a2 : Int) (ha0 : ev_rng a0) (ha1 : ev_rng a1) (ha2 : ev_rng a2) (S : ev_St) (x : Int ⊕ String) (S' : ev_St) (hJ : jm_180 Q a0 a1 a2 S = some (x, S')) : ev_Ref d 180 [.ref 0, .int (Int32.ofInt a0), .int (Int32.ofInt a1), .int (Int32.ofInt a2)] S (ev_eX x) S' (ev_PX x) := by
  obtain ⟨d, rfl⟩ : ∃ e, d = e + 1 := ⟨d - 1, by omega⟩
  refine ev_ref_of (P := ev_PX) (lv := [(0, .ref 0), (1, .int (Int32.ofInt a0)), (2, .int (Int32.ofInt a1)), (3, .int (Int32.ofInt a2))]) (by decide +kernel) (by (try simp only [ev_sum, ev_nv_cat]); first | done | rfl) (by (try simp only [lv_args, ev_nv_cat]); first | done | rfl) ?_ x S' hJ
  unfold jm_180
  refine ev_r_aload_n (pc := 0) (k := 0) (v := .ref 0) trivial (by decide +kernel) (by rfl) ?_
  refine ev_r_iload_n (pc := 1) (k := 1) (v := Int32.ofInt a0) (by decide +kernel) (by rfl) ?_
  refine ev_r_virt (pc := 2) (y := 156) (mi := 200) (na := 1) (k := 0) (as := [.int (Int32.ofInt a0)]) (rest := []) (encc := ev_oR) (Q := (fun r => r = 0 ∨ ev_isOb (r - 1) 5 = true)) (fun x S1 h => jt_200 d (by omega) Q a0 ha0 S x S1 h) (by exact ev_ob_0) (by decide +kernel) (by decide +kernel) (by decide +kernel) (by decide +kernel) rfl (by (try simp only [ev_sum, ev_nv_cat]); first | done | rfl) ?_
  intro r2 s1 hr2
  show ev_w _ _ _ _ _ [ev_nv r2] _ _ _ _
  refine ev_r_astore (pc := 5) (k := 4) (ev_isR_nv _) (by decide +kernel) (by decide +kernel) rfl ?_
  refine ev_r_aload_n (pc := 7) (k := 0) (v := .ref 0) trivial (by decide +kernel) (by exact (ev_l1 (by rfl) (by decide) (by decide))) ?_
  refine ev_r_getC (pc := 8) (y := 48) (ci := 12) (f := 8) (fin := 1) (k' := 254) (by decide +kernel) (by decide +kernel) (by exact ev_ob_0) rfl rfl ?_
  refine ev_r_iload_n (pc := 11) (k := 2) (v := Int32.ofInt a1) (by decide +kernel) (by exact (ev_l1 (by rfl) (by decide) (by decide))) ?_
  refine ev_r_virt (pc := 12) (y := 221) (mi := 1) (na := 1) (k := 254) (as := [.int (Int32.ofInt a1)]) (rest := []) (encc := ev_oR) (Q := (fun r => r = 0 ∨ ev_isOb (r - 1) 10 = true)) (fun x S1 h => jt_1 d (by omega) Q a1 ha1 s1 x S1 h) (by exact ev_ob_254) (by decide +kernel) (by decide +kernel) (by decide +kernel) (by decide +kernel) rfl (by (try simp only [ev_sum, ev_nv_cat]); first | done | rfl) ?_
  intro r4 s3 hr4
  show ev_w _ _ _ _ _ [ev_nv r4] _ _ _ _
  refine ev_r_astore (pc := 15) (k := 5) (ev_isR_nv _) (by decide +kernel) (by decide +kernel) rfl ?_
  refine ev_r_aload (pc := 17) (k := 4) (v := ev_nv r2) (ev_isR_nv _) (by decide +kernel) (by exact (ev_lk_st1 ev_lk_st1_self (by decide) (ev_nv_cat _))) ?_
  refine ev_r_ifnull (pc := 19) (r := r2) (o := 21) (t := 40) (by decide +kernel) (by decide +kernel) ?_ ?_
  · intro c5
    exact ev_r_throw (pc := 40) (x := (Sum.inr "java/lang/IndexOutOfBoundsException" : Int ⊕ String)) (y := 160) (E := "java/lang/IndexOutOfBoundsException") trivial (by decide +kernel) (by decide +kernel) (by decide +kernel) (Nat.ble_eq.mpr (by omega)) rfl
  · intro c5
    refine ev_r_aload (pc := 22) (k := 5) (v := ev_nv r4) (ev_isR_nv _) (by decide +kernel) (by exact ev_lk_st1_self) ?_
    refine ev_r_ifnull (pc := 24) (r := r4) (o := 16) (t := 40) (by decide +kernel) (by decide +kernel) ?_ ?_
    · intro c6
      exact ev_r_throw (pc := 40) (x := (Sum.inr "java/lang/IndexOutOfBoundsException" : Int ⊕ String)) (y := 160) (E := "java/lang/IndexOutOfBoundsException") trivial (by decide +kernel) (by decide +kernel) (by decide +kernel) (Nat.ble_eq.mpr (by omega)) rfl
    · intro c6
      refine ev_r_iload_n (pc := 27) (k := 3) (v := Int32.ofInt a2) (by decide +kernel) (by exact (ev_l1 (ev_lk_st1 (by rfl) (by decide) rfl) (by decide) (by decide))) ?_
      refine ev_r_if (pc := 28) (q := .lt) (o := 12) (t := 40) (c := a2 < 0) (by decide +kernel) (ev_k_lt ha2 ev_rng0) (by decide +kernel) ?_ ?_
      · intro c7
        exact ev_r_throw (pc := 40) (x := (Sum.inr "java/lang/IndexOutOfBoundsException" : Int ⊕ String)) (y := 160) (E := "java/lang/IndexOutOfBoundsException") trivial (by decide +kernel) (by decide +kernel) (by decide +kernel) (Nat.ble_eq.mpr (by omega)) rfl
      · intro c7
        refine ev_r_iload_n (pc := 31) (k := 3) (v := Int32.ofInt a2) (by decide +kernel) (by exact (ev_l1 (ev_lk_st1 (by rfl) (by decide) rfl) (by decide) (by decide))) ?_
        refine ev_r_aload (pc := 32) (k := 5) (v := ev_nv r4) (ev_isR_nv _) (by decide +kernel) (by exact ev_lk_st1_self) ?_
        refine ev_r_dr (r := r4) (fun v => [v, .int (Int32.ofInt a2)]) c6 ?_
        refine ev_r_getI (pc := 34) (y := 105) (ci := 10) (f := 1) (fin := 0) (by decide +kernel) (by decide +kernel) (by exact (hr4.resolve_left c6)) rfl ?_
        intro x8 hx8
        refine ev_r_icmp (pc := 37) (q := .le) (o := 13) (t := 50) (c := a2 ≤ x8) (by decide +kernel) (ev_k_le ha2 hx8) (by decide +kernel) ?_ ?_
        · intro c9
          refine ev_r_aload_n (pc := 50) (k := 0) (v := .ref 0) trivial (by decide +kernel) (by exact (ev_l1 (ev_l1 (by rfl) (by decide) (by decide)) (by decide) (by decide))) ?_
          refine ev_r_getC (pc := 51) (y := 62) (ci := 12) (f := 10) (fin := 1) (k' := 281) (by decide +kernel) (by decide +kernel) (by exact ev_ob_0) rfl rfl ?_
          refine ev_r_aload (pc := 54) (k := 4) (v := ev_nv r2) (ev_isR_nv _) (by decide +kernel) (by exact (ev_lk_st1 ev_lk_st1_self (by decide) (ev_nv_cat _))) ?_
          refine ev_r_aload (pc := 56) (k := 5) (v := ev_nv r4) (ev_isR_nv _) (by decide +kernel) (by exact ev_lk_st1_self) ?_
          refine ev_r_iload_n (pc := 58) (k := 3) (v := Int32.ofInt a2) (by decide +kernel) (by exact (ev_l1 (ev_lk_st1 (by rfl) (by decide) rfl) (by decide) (by decide))) ?_
          refine ev_r_virt (pc := 59) (y := 234) (mi := 116) (na := 3) (k := 281) (as := [ev_nv r2, ev_nv r4, .int (Int32.ofInt a2)]) (rest := []) (encc := ev_oI) (Q := ev_rng) (fun x S1 h => jt_116 d (by omega) Q r2 r4 a2 (by exact hr2) (by exact hr4) ha2 s3 x S1 h) (by exact ev_ob_281) (by decide +kernel) (by decide +kernel) (by decide +kernel) (by decide +kernel) rfl (by (try simp only [ev_sum, ev_nv_cat]); first | done | rfl) ?_
          intro x11 s10 hx11
          show ev_w _ _ _ _ _ [.int (Int32.ofInt x11)] _ _ _ _
          exact ev_r_ireturn (pc := 62) (x := (Sum.inl x11 : Int ⊕ String)) (v := Int32.ofInt x11) (ty := .int) hx11 (by decide +kernel) (by decide +kernel) rfl rfl
        · intro c9
          exact ev_r_throw (pc := 40) (x := (Sum.inr "java/lang/IndexOutOfBoundsException" : Int ⊕ String)) (y := 160) (E := "java/lang/IndexOutOfBoundsException") trivial (by decide +kernel) (by decide +kernel) (by decide +kernel) (Nat.ble_eq.mpr (by omega)) rfl
def jb_181_44 (Q : Nat) (r2 : Nat) (r4 : Nat)  (K44 : Int → Int → Int → ev_St → Option ((Int ⊕ String) × ev_St)) (x7 : Int) (x8 : Int) (x9 : Int) (s17 : ev_St) : Option ((Int ⊕ String) × ev_St) := if 160 < x9 then (some ((Sum.inl x8 : Int ⊕ String), s17)) else (ev_b (s17.1 ((r4 - 1)) 1) fun x19 => if x19 < x7 then (some ((Sum.inl x8 : Int ⊕ String), s17)) else (ev_bd (jm_115 Q r2 r4 x7 s17) fun x22 s21 => if 0 ≤ x22 then (ev_ck (x8 + 1) fun x24 => ev_bd (jm_117 Q  s21) fun x26 s25 => ev_ck (x9 + 1) fun x27 => K44 x26 x24 x27 s25) else (if x22 ≠ (-2) then (some ((Sum.inl x8 : Int ⊕ String), s21)) else (some ((Sum.inl ((-2)) : Int ⊕ String), s21)))))
def jl_181_44 (Q : Nat) (r2 : Nat) (r4 : Nat)  : Nat → Int → Int → Int → ev_St → Option ((Int ⊕ String) × ev_St)
  | 0 => fun _ _ _ _ => none
  | q + 1 => jb_181_44 Q r2 r4  (jl_181_44 Q r2 r4  q)
theorem jbt_181_44 (d : Nat) (hd : 7 ≤ d + 1) (Q : Nat) (r2 : Nat) (r4 : Nat) (hr2 : r2 = 0 ∨ ev_isOb (r2 - 1) 5 = true) (hr4 : r4 = 0 ∨ ev_isOb (r4 - 1) 10 = true) (c6 : ¬ r4 = 0)   (K44 : Int → Int → Int → ev_St → Option ((Int ⊕ String) × ev_St)) (hK44 : ∀ (x7 : Int) (hx7 : ev_rng x7), ∀ (x8 : Int) (hx8 : ev_rng x8), ∀ (x9 : Int) (hx9 : ev_rng x9), ∀ (s17 : ev_St) (w10 : List (Nat × Value)), ev_lk w10 0 = some (.ref 0) → ev_lk w10 3 = some (ev_nv r2) → ev_lk w10 4 = some (ev_nv r4) → ev_lk w10 5 = some (.int (Int32.ofInt x7)) → ev_lk w10 6 = some (.int (Int32.ofInt x8)) → ev_lk w10 7 = some (.int (Int32.ofInt x9)) → ev_w none (ev_Mof 181) d 44 w10 [] s17 (K44 x7 x8 x9 s17) ev_eX ev_PX) : ∀ (x7 : Int) (hx7 : ev_rng x7), ∀ (x8 : Int) (hx8 : ev_rng x8), ∀ (x9 : Int) (hx9 : ev_rng x9), ∀ (s17 : ev_St) (w10 : List (Nat × Value)), ev_lk w10 0 = some (.ref 0) → ev_lk w10 3 = some (ev_nv r2) → ev_lk w10 4 = some (ev_nv r4) → ev_lk w10 5 = some (.int (Int32.ofInt x7)) → ev_lk w10 6 = some (.int (Int32.ofInt x8)) → ev_lk w10 7 = some (.int (Int32.ofInt x9)) → ev_w none (ev_Mof 181) d 44 w10 [] s17 (jb_181_44 Q r2 r4  K44 x7 x8 x9 s17) ev_eX ev_PX := by
  intro x7 hx7 x8 hx8 x9 hx9 s17 w10 e11 e12 e13 e14 e15 e16
  unfold jb_181_44
  refine ev_r_iload (pc := 44) (k := 7) (v := Int32.ofInt x9) (by decide +kernel) (by exact e16) ?_
  refine ev_r_sipush (pc := 46) (k := 160) (by decide +kernel) (by decide +kernel) ?_
  refine ev_r_icmp (pc := 49) (q := .gt) (o := 65) (t := 114) (c := 160 < x9) (by decide +kernel) (ev_k_gt hx9 (by decide)) (by decide +kernel) ?_ ?_
  · intro c18
    refine ev_r_iload (pc := 114) (k := 6) (v := Int32.ofInt x8) (by decide +kernel) (by exact e15) ?_
    exact ev_r_ireturn (pc := 116) (x := (Sum.inl x8 : Int ⊕ String)) (v := Int32.ofInt x8) (ty := .int) hx8 (by decide +kernel) (by decide +kernel) rfl rfl
  · intro c18
    refine ev_r_iload (pc := 52) (k := 5) (v := Int32.ofInt x7) (by decide +kernel) (by exact e14) ?_
    refine ev_r_aload (pc := 54) (k := 4) (v := ev_nv r4) (ev_isR_nv _) (by decide +kernel) (by exact e13) ?_
    refine ev_r_dr (r := r4) (fun v => [v, .int (Int32.ofInt x7)]) c6 ?_
    refine ev_r_getI (pc := 56) (y := 105) (ci := 10) (f := 1) (fin := 0) (by decide +kernel) (by decide +kernel) (by exact (hr4.resolve_left c6)) rfl ?_
    intro x19 hx19
    refine ev_r_icmp (pc := 59) (q := .gt) (o := 55) (t := 114) (c := x19 < x7) (by decide +kernel) (ev_k_gt hx7 hx19) (by decide +kernel) ?_ ?_
    · intro c20
      refine ev_r_iload (pc := 114) (k := 6) (v := Int32.ofInt x8) (by decide +kernel) (by exact e15) ?_
      exact ev_r_ireturn (pc := 116) (x := (Sum.inl x8 : Int ⊕ String)) (v := Int32.ofInt x8) (ty := .int) hx8 (by decide +kernel) (by decide +kernel) rfl rfl
    · intro c20
      refine ev_r_aload_n (pc := 62) (k := 0) (v := .ref 0) trivial (by decide +kernel) (by exact e11) ?_
      refine ev_r_getC (pc := 63) (y := 62) (ci := 12) (f := 10) (fin := 1) (k' := 281) (by decide +kernel) (by decide +kernel) (by exact ev_ob_0) rfl rfl ?_
      refine ev_r_aload_n (pc := 66) (k := 3) (v := ev_nv r2) (ev_isR_nv _) (by decide +kernel) (by exact e12) ?_
      refine ev_r_aload (pc := 67) (k := 4) (v := ev_nv r4) (ev_isR_nv _) (by decide +kernel) (by exact e13) ?_
      refine ev_r_iload (pc := 69) (k := 5) (v := Int32.ofInt x7) (by decide +kernel) (by exact e14) ?_
      refine ev_r_virt (pc := 71) (y := 227) (mi := 115) (na := 3) (k := 281) (as := [ev_nv r2, ev_nv r4, .int (Int32.ofInt x7)]) (rest := []) (encc := ev_oI) (Q := ev_rng) (fun x S1 h => jt_115 d (by omega) Q r2 r4 x7 (by exact hr2) (by exact hr4) hx7 s17 x S1 h) (by exact ev_ob_281) (by decide +kernel) (by decide +kernel) (by decide +kernel) (by decide +kernel) rfl (by (try simp only [ev_sum, ev_nv_cat]); first | done | rfl) ?_
      intro x22 s21 hx22
      show ev_w _ _ _ _ _ [.int (Int32.ofInt x22)] _ _ _ _
      refine ev_r_istore (pc := 74) (k := 8) (by decide +kernel) (by decide +kernel) rfl ?_
      refine ev_r_iload (pc := 76) (k := 8) (v := Int32.ofInt x22) (by decide +kernel) (by exact ev_lk_st1_self) ?_
      refine ev_r_if (pc := 78) (q := .ge) (o := 18) (t := 96) (c := 0 ≤ x22) (by decide +kernel) (ev_k_ge hx22 ev_rng0) (by decide +kernel) ?_ ?_
      · intro c23
        refine ev_r_iinc (pc := 96) (k := 6) (c := 1) (x := x8) (by decide +kernel) (by decide +kernel) (by exact (ev_l1 e15 (by decide) (by decide))) (fun _ => rfl) ?_
        intro x24 hx24
        refine ev_r_aload_n (pc := 99) (k := 0) (v := .ref 0) trivial (by decide +kernel) (by exact (ev_l1 (ev_l1 e11 (by decide) (by decide)) (by decide) (by decide))) ?_
        refine ev_r_getC (pc := 100) (y := 62) (ci := 12) (f := 10) (fin := 1) (k' := 281) (by decide +kernel) (by decide +kernel) (by exact ev_ob_0) rfl rfl ?_
        refine ev_r_virt (pc := 103) (y := 239) (mi := 117) (na := 0) (k := 281) (as := []) (rest := []) (encc := ev_oI) (Q := ev_rng) (fun x S1 h => jt_117 d (by omega) Q   s21 x S1 h) (by exact ev_ob_281) (by decide +kernel) (by decide +kernel) (by decide +kernel) (by decide +kernel) rfl (by (try simp only [ev_sum, ev_nv_cat]); first | done | rfl) ?_
        intro x26 s25 hx26
        show ev_w _ _ _ _ _ [.int (Int32.ofInt x26)] _ _ _ _
        refine ev_r_istore (pc := 106) (k := 5) (by decide +kernel) (by decide +kernel) rfl ?_
        refine ev_r_iinc (pc := 108) (k := 7) (c := 1) (x := x9) (by decide +kernel) (by decide +kernel) (by exact (ev_l1 (ev_l1 (ev_lk_st1 e16 (by decide) rfl) (by decide) (by decide)) (by decide) (by decide))) (fun _ => rfl) ?_
        intro x27 hx27
        refine ev_r_goto (pc := 111) (o := (-67)) (t := 44) (by decide +kernel) (by decide +kernel) ?_
        exact hK44 x26 hx26 x24 hx24 x27 hx27 s25 _ (by exact (ev_l1 (ev_l1 (ev_l1 (ev_l1 e11 (by decide) (by decide)) (by decide) (by decide)) (by decide) (by decide)) (by decide) (by decide))) (by exact (ev_l1 (ev_l1 (ev_l1 (ev_l1 e12 (by decide) (by decide)) (by decide) (by decide)) (by decide) (by decide)) (by decide) (by decide))) (by exact (ev_l1 (ev_lk_st1 (ev_l1 (ev_l1 e13 (by decide) (by decide)) (by decide) (by decide)) (by decide) (ev_nv_cat _)) (by decide) (by decide))) (by exact (ev_l1 ev_lk_st1_self (by decide) (by decide))) (by exact (ev_lk_st1 (ev_l1 ev_lk_st1_self (by decide) (by decide)) (by decide) rfl)) (by exact ev_lk_st1_self)
      · intro c23
        refine ev_r_iload (pc := 81) (k := 8) (v := Int32.ofInt x22) (by decide +kernel) (by exact ev_lk_st1_self) ?_
        refine ev_r_bipush (pc := 83) (k := -2) (by decide +kernel) (by decide +kernel) ?_
        refine ev_r_icmp (pc := 85) (q := .ne) (o := 8) (t := 93) (c := x22 ≠ (-2)) (by decide +kernel) (ev_k_ne hx22 (by decide)) (by decide +kernel) ?_ ?_
        · intro c28
          refine ev_r_iload (pc := 93) (k := 6) (v := Int32.ofInt x8) (by decide +kernel) (by exact (ev_l1 e15 (by decide) (by decide))) ?_
          exact ev_r_ireturn (pc := 95) (x := (Sum.inl x8 : Int ⊕ String)) (v := Int32.ofInt x8) (ty := .int) hx8 (by decide +kernel) (by decide +kernel) rfl rfl
        · intro c28
          refine ev_r_bipush (pc := 88) (k := -2) (by decide +kernel) (by decide +kernel) ?_
          refine ev_r_goto (pc := 90) (o := 5) (t := 95) (by decide +kernel) (by decide +kernel) ?_
          exact ev_r_ireturn (pc := 95) (x := (Sum.inl ((-2)) : Int ⊕ String)) (v := Int32.ofInt ((-2))) (ty := .int) (show ev_rng ((-2)) by decide) (by decide +kernel) (by decide +kernel) rfl rfl
theorem jlt_181_44 (d : Nat) (hd : 7 ≤ d + 1) (Q : Nat) (r2 : Nat) (r4 : Nat) (hr2 : r2 = 0 ∨ ev_isOb (r2 - 1) 5 = true) (hr4 : r4 = 0 ∨ ev_isOb (r4 - 1) 10 = true) (c6 : ¬ r4 = 0)   : ∀ q : Nat, ∀ (x7 : Int) (hx7 : ev_rng x7), ∀ (x8 : Int) (hx8 : ev_rng x8), ∀ (x9 : Int) (hx9 : ev_rng x9), ∀ (s17 : ev_St) (w10 : List (Nat × Value)), ev_lk w10 0 = some (.ref 0) → ev_lk w10 3 = some (ev_nv r2) → ev_lk w10 4 = some (ev_nv r4) → ev_lk w10 5 = some (.int (Int32.ofInt x7)) → ev_lk w10 6 = some (.int (Int32.ofInt x8)) → ev_lk w10 7 = some (.int (Int32.ofInt x9)) → ev_w none (ev_Mof 181) d 44 w10 [] s17 (jl_181_44 Q r2 r4  q x7 x8 x9 s17) ev_eX ev_PX := by
  intro q
  induction q with
  | zero =>
    intro x7 hx7 x8 hx8 x9 hx9 s17 w10 e11 e12 e13 e14 e15 e16
    exact ev_w_none
  | succ q ih => exact jbt_181_44 d hd Q r2 r4 hr2 hr4 c6   _ ih
/-- MendBench.matches(II)I -/
def jm_181 (Q : Nat) (a0 : Int) (a1 : Int) (S : ev_St) : Option ((Int ⊕ String) × ev_St) := ev_bd (jm_200 Q a0 S) fun r2 s1 => ev_bd (jm_1 Q a1 s1) fun r4 s3 => if (r2 : Nat) = 0 then (some (.inr "java/lang/IndexOutOfBoundsException", ev_tick s3)) else (if (r4 : Nat) = 0 then (some (.inr "java/lang/IndexOutOfBoundsException", ev_tick s3)) else (jl_181_44 Q r2 r4  Q 0 0 0 s3))
theorem jt_181 (d : Nat) (hd : 7 ≤ d) (Q : Nat) (a0 : Int) (a1 : Int) (ha0 : ev_rng a0) (ha1 : ev_rng a1) (S : ev_St) (x : Int ⊕ String) (S' : ev_St) (hJ : jm_181 Q a0 a1 S = some (x, S')) : ev_Ref d 181 [.ref 0, .int (Int32.ofInt a0), .int (Int32.ofInt a1)] S (ev_eX x) S' (ev_PX x) := by
  obtain ⟨d, rfl⟩ : ∃ e, d = e + 1 := ⟨d - 1, by omega⟩
  refine ev_ref_of (P := ev_PX) (lv := [(0, .ref 0), (1, .int (Int32.ofInt a0)), (2, .int (Int32.ofInt a1))]) (by decide +kernel) (by (try simp only [ev_sum, ev_nv_cat]); first | done | rfl) (by (try simp only [lv_args, ev_nv_cat]); first | done | rfl) ?_ x S' hJ
  unfold jm_181
  refine ev_r_aload_n (pc := 0) (k := 0) (v := .ref 0) trivial (by decide +kernel) (by rfl) ?_
  refine ev_r_iload_n (pc := 1) (k := 1) (v := Int32.ofInt a0) (by decide +kernel) (by rfl) ?_
  refine ev_r_virt (pc := 2) (y := 156) (mi := 200) (na := 1) (k := 0) (as := [.int (Int32.ofInt a0)]) (rest := []) (encc := ev_oR) (Q := (fun r => r = 0 ∨ ev_isOb (r - 1) 5 = true)) (fun x S1 h => jt_200 d (by omega) Q a0 ha0 S x S1 h) (by exact ev_ob_0) (by decide +kernel) (by decide +kernel) (by decide +kernel) (by decide +kernel) rfl (by (try simp only [ev_sum, ev_nv_cat]); first | done | rfl) ?_
  intro r2 s1 hr2
  show ev_w _ _ _ _ _ [ev_nv r2] _ _ _ _
  refine ev_r_astore_n (pc := 5) (k := 3) (ev_isR_nv _) (by decide +kernel) (by decide +kernel) rfl ?_
  refine ev_r_aload_n (pc := 6) (k := 0) (v := .ref 0) trivial (by decide +kernel) (by exact (ev_l1 (by rfl) (by decide) (by decide))) ?_
  refine ev_r_getC (pc := 7) (y := 48) (ci := 12) (f := 8) (fin := 1) (k' := 254) (by decide +kernel) (by decide +kernel) (by exact ev_ob_0) rfl rfl ?_
  refine ev_r_iload_n (pc := 10) (k := 2) (v := Int32.ofInt a1) (by decide +kernel) (by exact (ev_lk_st1 (by rfl) (by decide) rfl)) ?_
  refine ev_r_virt (pc := 11) (y := 221) (mi := 1) (na := 1) (k := 254) (as := [.int (Int32.ofInt a1)]) (rest := []) (encc := ev_oR) (Q := (fun r => r = 0 ∨ ev_isOb (r - 1) 10 = true)) (fun x S1 h => jt_1 d (by omega) Q a1 ha1 s1 x S1 h) (by exact ev_ob_254) (by decide +kernel) (by decide +kernel) (by decide +kernel) (by decide +kernel) rfl (by (try simp only [ev_sum, ev_nv_cat]); first | done | rfl) ?_
  intro r4 s3 hr4
  show ev_w _ _ _ _ _ [ev_nv r4] _ _ _ _
  refine ev_r_astore (pc := 14) (k := 4) (ev_isR_nv _) (by decide +kernel) (by decide +kernel) rfl ?_
  refine ev_r_aload_n (pc := 16) (k := 3) (v := ev_nv r2) (ev_isR_nv _) (by decide +kernel) (by exact (ev_lk_st1 ev_lk_st1_self (by decide) (ev_nv_cat _))) ?_
  refine ev_r_ifnull (pc := 17) (r := r2) (o := 8) (t := 25) (by decide +kernel) (by decide +kernel) ?_ ?_
  · intro c5
    exact ev_r_throw (pc := 25) (x := (Sum.inr "java/lang/IndexOutOfBoundsException" : Int ⊕ String)) (y := 160) (E := "java/lang/IndexOutOfBoundsException") trivial (by decide +kernel) (by decide +kernel) (by decide +kernel) (Nat.ble_eq.mpr (by omega)) rfl
  · intro c5
    refine ev_r_aload (pc := 20) (k := 4) (v := ev_nv r4) (ev_isR_nv _) (by decide +kernel) (by exact ev_lk_st1_self) ?_
    refine ev_r_ifnonnull (pc := 22) (r := r4) (o := 13) (t := 35) (by decide +kernel) (by decide +kernel) ?_ ?_
    · intro c6
      refine ev_r_iconst (pc := 35) (k := 0) (by decide +kernel) ?_
      refine ev_r_istore (pc := 36) (k := 5) (by decide +kernel) (by decide +kernel) rfl ?_
      refine ev_r_iconst (pc := 38) (k := 0) (by decide +kernel) ?_
      refine ev_r_istore (pc := 39) (k := 6) (by decide +kernel) (by decide +kernel) rfl ?_
      refine ev_r_iconst (pc := 41) (k := 0) (by decide +kernel) ?_
      refine ev_r_istore (pc := 42) (k := 7) (by decide +kernel) (by decide +kernel) rfl ?_
      exact jlt_181_44 d hd Q r2 r4 hr2 hr4 c6   Q 0 (by decide) 0 (by decide) 0 (by decide) s3 _ (by exact (ev_l1 (ev_l1 (ev_l1 (ev_l1 (ev_l1 (by rfl) (by decide) (by decide)) (by decide) (by decide)) (by decide) (by decide)) (by decide) (by decide)) (by decide) (by decide))) (by exact (ev_l1 (ev_l1 (ev_l1 (ev_lk_st1 ev_lk_st1_self (by decide) (ev_nv_cat _)) (by decide) (by decide)) (by decide) (by decide)) (by decide) (by decide))) (by exact (ev_l1 (ev_l1 (ev_lk_st1 ev_lk_st1_self (by decide) (ev_nv_cat _)) (by decide) (by decide)) (by decide) (by decide))) (by exact (ev_l1 (ev_lk_st1 ev_lk_st1_self (by decide) rfl) (by decide) (by decide))) (by exact (ev_lk_st1 ev_lk_st1_self (by decide) rfl)) (by exact ev_lk_st1_self)
    · intro c6
      exact ev_r_throw (pc := 25) (x := (Sum.inr "java/lang/IndexOutOfBoundsException" : Int ⊕ String)) (y := 160) (E := "java/lang/IndexOutOfBoundsException") trivial (by decide +kernel) (by decide +kernel) (by decide +kernel) (Nat.ble_eq.mpr (by omega)) rfl
def jb_182_47 (Q : Nat) (a2 : Int) (r2 : Nat) (r4 : Nat)  (K47 : Int → Int → ev_St → Option ((Int ⊕ String) × ev_St)) (x8 : Int) (x9 : Int) (s17 : ev_St) : Option ((Int ⊕ String) × ev_St) := if 160 < x9 then (some (.inr "java/lang/IndexOutOfBoundsException", ev_tick s17)) else (ev_b (s17.1 ((r4 - 1)) 1) fun x19 => if x19 < x8 then (some (.inr "java/lang/IndexOutOfBoundsException", ev_tick s17)) else (ev_bd (jm_115 Q r2 r4 x8 s17) fun x22 s21 => if 0 ≤ x22 then (if x9 ≠ a2 then (ev_bd (jm_117 Q  s21) fun x26 s25 => ev_ck (x9 + 1) fun x27 => K47 x26 x27 s25) else (some ((Sum.inl x22 : Int ⊕ String), s21))) else (some (.inr "java/lang/IndexOutOfBoundsException", ev_tick s21))))
def jl_182_47 (Q : Nat) (a2 : Int) (r2 : Nat) (r4 : Nat)  : Nat → Int → Int → ev_St → Option ((Int ⊕ String) × ev_St)
  | 0 => fun _ _ _ => none
  | q + 1 => jb_182_47 Q a2 r2 r4  (jl_182_47 Q a2 r2 r4  q)
theorem jbt_182_47 (d : Nat) (hd : 7 ≤ d + 1) (Q : Nat) (a2 : Int) (r2 : Nat) (r4 : Nat) (ha2 : ev_rng a2) (hr2 : r2 = 0 ∨ ev_isOb (r2 - 1) 5 = true) (hr4 : r4 = 0 ∨ ev_isOb (r4 - 1) 10 = true) (c6 : ¬ r4 = 0)   (K47 : Int → Int → ev_St → Option ((Int ⊕ String) × ev_St)) (hK47 : ∀ (x8 : Int) (hx8 : ev_rng x8), ∀ (x9 : Int) (hx9 : ev_rng x9), ∀ (s17 : ev_St) (w10 : List (Nat × Value)), ev_lk w10 0 = some (.ref 0) → ev_lk w10 3 = some (.int (Int32.ofInt a2)) → ev_lk w10 4 = some (ev_nv r2) → ev_lk w10 5 = some (ev_nv r4) → ev_lk w10 6 = some (.int (Int32.ofInt x8)) → ev_lk w10 7 = some (.int (Int32.ofInt x9)) → ev_w none (ev_Mof 182) d 47 w10 [] s17 (K47 x8 x9 s17) ev_eX ev_PX) : ∀ (x8 : Int) (hx8 : ev_rng x8), ∀ (x9 : Int) (hx9 : ev_rng x9), ∀ (s17 : ev_St) (w10 : List (Nat × Value)), ev_lk w10 0 = some (.ref 0) → ev_lk w10 3 = some (.int (Int32.ofInt a2)) → ev_lk w10 4 = some (ev_nv r2) → ev_lk w10 5 = some (ev_nv r4) → ev_lk w10 6 = some (.int (Int32.ofInt x8)) → ev_lk w10 7 = some (.int (Int32.ofInt x9)) → ev_w none (ev_Mof 182) d 47 w10 [] s17 (jb_182_47 Q a2 r2 r4  K47 x8 x9 s17) ev_eX ev_PX := by
  intro x8 hx8 x9 hx9 s17 w10 e11 e12 e13 e14 e15 e16
  unfold jb_182_47
  refine ev_r_iload (pc := 47) (k := 7) (v := Int32.ofInt x9) (by decide +kernel) (by exact e16) ?_
  refine ev_r_sipush (pc := 49) (k := 160) (by decide +kernel) (by decide +kernel) ?_
  refine ev_r_icmp (pc := 52) (q := .gt) (o := 60) (t := 112) (c := 160 < x9) (by decide +kernel) (ev_k_gt hx9 (by decide)) (by decide +kernel) ?_ ?_
  · intro c18
    exact ev_r_throw (pc := 112) (x := (Sum.inr "java/lang/IndexOutOfBoundsException" : Int ⊕ String)) (y := 160) (E := "java/lang/IndexOutOfBoundsException") trivial (by decide +kernel) (by decide +kernel) (by decide +kernel) (Nat.ble_eq.mpr (by omega)) rfl
  · intro c18
    refine ev_r_iload (pc := 55) (k := 6) (v := Int32.ofInt x8) (by decide +kernel) (by exact e15) ?_
    refine ev_r_aload (pc := 57) (k := 5) (v := ev_nv r4) (ev_isR_nv _) (by decide +kernel) (by exact e14) ?_
    refine ev_r_dr (r := r4) (fun v => [v, .int (Int32.ofInt x8)]) c6 ?_
    refine ev_r_getI (pc := 59) (y := 105) (ci := 10) (f := 1) (fin := 0) (by decide +kernel) (by decide +kernel) (by exact (hr4.resolve_left c6)) rfl ?_
    intro x19 hx19
    refine ev_r_icmp (pc := 62) (q := .gt) (o := 50) (t := 112) (c := x19 < x8) (by decide +kernel) (ev_k_gt hx8 hx19) (by decide +kernel) ?_ ?_
    · intro c20
      exact ev_r_throw (pc := 112) (x := (Sum.inr "java/lang/IndexOutOfBoundsException" : Int ⊕ String)) (y := 160) (E := "java/lang/IndexOutOfBoundsException") trivial (by decide +kernel) (by decide +kernel) (by decide +kernel) (Nat.ble_eq.mpr (by omega)) rfl
    · intro c20
      refine ev_r_aload_n (pc := 65) (k := 0) (v := .ref 0) trivial (by decide +kernel) (by exact e11) ?_
      refine ev_r_getC (pc := 66) (y := 62) (ci := 12) (f := 10) (fin := 1) (k' := 281) (by decide +kernel) (by decide +kernel) (by exact ev_ob_0) rfl rfl ?_
      refine ev_r_aload (pc := 69) (k := 4) (v := ev_nv r2) (ev_isR_nv _) (by decide +kernel) (by exact e13) ?_
      refine ev_r_aload (pc := 71) (k := 5) (v := ev_nv r4) (ev_isR_nv _) (by decide +kernel) (by exact e14) ?_
      refine ev_r_iload (pc := 73) (k := 6) (v := Int32.ofInt x8) (by decide +kernel) (by exact e15) ?_
      refine ev_r_virt (pc := 75) (y := 227) (mi := 115) (na := 3) (k := 281) (as := [ev_nv r2, ev_nv r4, .int (Int32.ofInt x8)]) (rest := []) (encc := ev_oI) (Q := ev_rng) (fun x S1 h => jt_115 d (by omega) Q r2 r4 x8 (by exact hr2) (by exact hr4) hx8 s17 x S1 h) (by exact ev_ob_281) (by decide +kernel) (by decide +kernel) (by decide +kernel) (by decide +kernel) rfl (by (try simp only [ev_sum, ev_nv_cat]); first | done | rfl) ?_
      intro x22 s21 hx22
      show ev_w _ _ _ _ _ [.int (Int32.ofInt x22)] _ _ _ _
      refine ev_r_istore (pc := 78) (k := 8) (by decide +kernel) (by decide +kernel) rfl ?_
      refine ev_r_iload (pc := 80) (k := 8) (v := Int32.ofInt x22) (by decide +kernel) (by exact ev_lk_st1_self) ?_
      refine ev_r_if (pc := 82) (q := .ge) (o := 6) (t := 88) (c := 0 ≤ x22) (by decide +kernel) (ev_k_ge hx22 ev_rng0) (by decide +kernel) ?_ ?_
      · intro c23
        refine ev_r_iload (pc := 88) (k := 7) (v := Int32.ofInt x9) (by decide +kernel) (by exact (ev_lk_st1 e16 (by decide) rfl)) ?_
        refine ev_r_iload_n (pc := 90) (k := 3) (v := Int32.ofInt a2) (by decide +kernel) (by exact (ev_l1 e12 (by decide) (by decide))) ?_
        refine ev_r_icmp (pc := 91) (q := .ne) (o := 6) (t := 97) (c := x9 ≠ a2) (by decide +kernel) (ev_k_ne hx9 ha2) (by decide +kernel) ?_ ?_
        · intro c24
          refine ev_r_aload_n (pc := 97) (k := 0) (v := .ref 0) trivial (by decide +kernel) (by exact (ev_l1 e11 (by decide) (by decide))) ?_
          refine ev_r_getC (pc := 98) (y := 62) (ci := 12) (f := 10) (fin := 1) (k' := 281) (by decide +kernel) (by decide +kernel) (by exact ev_ob_0) rfl rfl ?_
          refine ev_r_virt (pc := 101) (y := 239) (mi := 117) (na := 0) (k := 281) (as := []) (rest := []) (encc := ev_oI) (Q := ev_rng) (fun x S1 h => jt_117 d (by omega) Q   s21 x S1 h) (by exact ev_ob_281) (by decide +kernel) (by decide +kernel) (by decide +kernel) (by decide +kernel) rfl (by (try simp only [ev_sum, ev_nv_cat]); first | done | rfl) ?_
          intro x26 s25 hx26
          show ev_w _ _ _ _ _ [.int (Int32.ofInt x26)] _ _ _ _
          refine ev_r_istore (pc := 104) (k := 6) (by decide +kernel) (by decide +kernel) rfl ?_
          refine ev_r_iinc (pc := 106) (k := 7) (c := 1) (x := x9) (by decide +kernel) (by decide +kernel) (by exact (ev_l1 (ev_lk_st1 e16 (by decide) rfl) (by decide) (by decide))) (fun _ => rfl) ?_
          intro x27 hx27
          refine ev_r_goto (pc := 109) (o := (-62)) (t := 47) (by decide +kernel) (by decide +kernel) ?_
          exact hK47 x26 hx26 x27 hx27 s25 _ (by exact (ev_l1 (ev_l1 (ev_l1 e11 (by decide) (by decide)) (by decide) (by decide)) (by decide) (by decide))) (by exact (ev_l1 (ev_l1 (ev_l1 e12 (by decide) (by decide)) (by decide) (by decide)) (by decide) (by decide))) (by exact (ev_l1 (ev_l1 (ev_l1 e13 (by decide) (by decide)) (by decide) (by decide)) (by decide) (by decide))) (by exact (ev_l1 (ev_lk_st1 (ev_l1 e14 (by decide) (by decide)) (by decide) (ev_nv_cat _)) (by decide) (by decide))) (by exact (ev_lk_st1 ev_lk_st1_self (by decide) rfl)) (by exact ev_lk_st1_self)
        · intro c24
          refine ev_r_iload (pc := 94) (k := 8) (v := Int32.ofInt x22) (by decide +kernel) (by exact ev_lk_st1_self) ?_
          exact ev_r_ireturn (pc := 96) (x := (Sum.inl x22 : Int ⊕ String)) (v := Int32.ofInt x22) (ty := .int) hx22 (by decide +kernel) (by decide +kernel) rfl rfl
      · intro c23
        refine ev_r_goto (pc := 85) (o := 27) (t := 112) (by decide +kernel) (by decide +kernel) ?_
        exact ev_r_throw (pc := 112) (x := (Sum.inr "java/lang/IndexOutOfBoundsException" : Int ⊕ String)) (y := 160) (E := "java/lang/IndexOutOfBoundsException") trivial (by decide +kernel) (by decide +kernel) (by decide +kernel) (Nat.ble_eq.mpr (by omega)) rfl
theorem jlt_182_47 (d : Nat) (hd : 7 ≤ d + 1) (Q : Nat) (a2 : Int) (r2 : Nat) (r4 : Nat) (ha2 : ev_rng a2) (hr2 : r2 = 0 ∨ ev_isOb (r2 - 1) 5 = true) (hr4 : r4 = 0 ∨ ev_isOb (r4 - 1) 10 = true) (c6 : ¬ r4 = 0)   : ∀ q : Nat, ∀ (x8 : Int) (hx8 : ev_rng x8), ∀ (x9 : Int) (hx9 : ev_rng x9), ∀ (s17 : ev_St) (w10 : List (Nat × Value)), ev_lk w10 0 = some (.ref 0) → ev_lk w10 3 = some (.int (Int32.ofInt a2)) → ev_lk w10 4 = some (ev_nv r2) → ev_lk w10 5 = some (ev_nv r4) → ev_lk w10 6 = some (.int (Int32.ofInt x8)) → ev_lk w10 7 = some (.int (Int32.ofInt x9)) → ev_w none (ev_Mof 182) d 47 w10 [] s17 (jl_182_47 Q a2 r2 r4  q x8 x9 s17) ev_eX ev_PX := by
  intro q
  induction q with
  | zero =>
    intro x8 hx8 x9 hx9 s17 w10 e11 e12 e13 e14 e15 e16
    exact ev_w_none
  | succ q ih => exact jbt_182_47 d hd Q a2 r2 r4 ha2 hr2 hr4 c6   _ ih
/-- MendBench.match(III)I -/
def jm_182 (Q : Nat) (a0 : Int) (a1 : Int) (a2 : Int) (S : ev_St) : Option ((Int ⊕ String) × ev_St) := ev_bd (jm_200 Q a0 S) fun r2 s1 => ev_bd (jm_1 Q a1 s1) fun r4 s3 => if (r2 : Nat) = 0 then (some (.inr "java/lang/IndexOutOfBoundsException", ev_tick s3)) else (if (r4 : Nat) = 0 then (some (.inr "java/lang/IndexOutOfBoundsException", ev_tick s3)) else (if 0 ≤ a2 then (jl_182_47 Q a2 r2 r4  Q 0 0 s3) else (some (.inr "java/lang/IndexOutOfBoundsException", ev_tick s3))))
theorem jt_182 (d : Nat) (hd : 7 ≤ d) (Q : Nat) (a0 : Int) (a1 : Int) (a2 : Int) (ha0 : ev_rng a0) (ha1 : ev_rng a1) (ha2 : ev_rng a2) (S : ev_St) (x : Int ⊕ String) (S' : ev_St) (hJ : jm_182 Q a0 a1 a2 S = some (x, S')) : ev_Ref d 182 [.ref 0, .int (Int32.ofInt a0), .int (Int32.ofInt a1), .int (Int32.ofInt a2)] S (ev_eX x) S' (ev_PX x) := by
  obtain ⟨d, rfl⟩ : ∃ e, d = e + 1 := ⟨d - 1, by omega⟩
  refine ev_ref_of (P := ev_PX) (lv := [(0, .ref 0), (1, .int (Int32.ofInt a0)), (2, .int (Int32.ofInt a1)), (3, .int (Int32.ofInt a2))]) (by decide +kernel) (by (try simp only [ev_sum, ev_nv_cat]); first | done | rfl) (by (try simp only [lv_args, ev_nv_cat]); first | done | rfl) ?_ x S' hJ
  unfold jm_182
  refine ev_r_aload_n (pc := 0) (k := 0) (v := .ref 0) trivial (by decide +kernel) (by rfl) ?_
  refine ev_r_iload_n (pc := 1) (k := 1) (v := Int32.ofInt a0) (by decide +kernel) (by rfl) ?_
  refine ev_r_virt (pc := 2) (y := 156) (mi := 200) (na := 1) (k := 0) (as := [.int (Int32.ofInt a0)]) (rest := []) (encc := ev_oR) (Q := (fun r => r = 0 ∨ ev_isOb (r - 1) 5 = true)) (fun x S1 h => jt_200 d (by omega) Q a0 ha0 S x S1 h) (by exact ev_ob_0) (by decide +kernel) (by decide +kernel) (by decide +kernel) (by decide +kernel) rfl (by (try simp only [ev_sum, ev_nv_cat]); first | done | rfl) ?_
  intro r2 s1 hr2
  show ev_w _ _ _ _ _ [ev_nv r2] _ _ _ _
  refine ev_r_astore (pc := 5) (k := 4) (ev_isR_nv _) (by decide +kernel) (by decide +kernel) rfl ?_
  refine ev_r_aload_n (pc := 7) (k := 0) (v := .ref 0) trivial (by decide +kernel) (by exact (ev_l1 (by rfl) (by decide) (by decide))) ?_
  refine ev_r_getC (pc := 8) (y := 48) (ci := 12) (f := 8) (fin := 1) (k' := 254) (by decide +kernel) (by decide +kernel) (by exact ev_ob_0) rfl rfl ?_
  refine ev_r_iload_n (pc := 11) (k := 2) (v := Int32.ofInt a1) (by decide +kernel) (by exact (ev_l1 (by rfl) (by decide) (by decide))) ?_
  refine ev_r_virt (pc := 12) (y := 221) (mi := 1) (na := 1) (k := 254) (as := [.int (Int32.ofInt a1)]) (rest := []) (encc := ev_oR) (Q := (fun r => r = 0 ∨ ev_isOb (r - 1) 10 = true)) (fun x S1 h => jt_1 d (by omega) Q a1 ha1 s1 x S1 h) (by exact ev_ob_254) (by decide +kernel) (by decide +kernel) (by decide +kernel) (by decide +kernel) rfl (by (try simp only [ev_sum, ev_nv_cat]); first | done | rfl) ?_
  intro r4 s3 hr4
  show ev_w _ _ _ _ _ [ev_nv r4] _ _ _ _
  refine ev_r_astore (pc := 15) (k := 5) (ev_isR_nv _) (by decide +kernel) (by decide +kernel) rfl ?_
  refine ev_r_aload (pc := 17) (k := 4) (v := ev_nv r2) (ev_isR_nv _) (by decide +kernel) (by exact (ev_lk_st1 ev_lk_st1_self (by decide) (ev_nv_cat _))) ?_
  refine ev_r_ifnull (pc := 19) (r := r2) (o := 12) (t := 31) (by decide +kernel) (by decide +kernel) ?_ ?_
  · intro c5
    exact ev_r_throw (pc := 31) (x := (Sum.inr "java/lang/IndexOutOfBoundsException" : Int ⊕ String)) (y := 160) (E := "java/lang/IndexOutOfBoundsException") trivial (by decide +kernel) (by decide +kernel) (by decide +kernel) (Nat.ble_eq.mpr (by omega)) rfl
  · intro c5
    refine ev_r_aload (pc := 22) (k := 5) (v := ev_nv r4) (ev_isR_nv _) (by decide +kernel) (by exact ev_lk_st1_self) ?_
    refine ev_r_ifnull (pc := 24) (r := r4) (o := 7) (t := 31) (by decide +kernel) (by decide +kernel) ?_ ?_
    · intro c6
      exact ev_r_throw (pc := 31) (x := (Sum.inr "java/lang/IndexOutOfBoundsException" : Int ⊕ String)) (y := 160) (E := "java/lang/IndexOutOfBoundsException") trivial (by decide +kernel) (by decide +kernel) (by decide +kernel) (Nat.ble_eq.mpr (by omega)) rfl
    · intro c6
      refine ev_r_iload_n (pc := 27) (k := 3) (v := Int32.ofInt a2) (by decide +kernel) (by exact (ev_l1 (ev_lk_st1 (by rfl) (by decide) rfl) (by decide) (by decide))) ?_
      refine ev_r_if (pc := 28) (q := .ge) (o := 13) (t := 41) (c := 0 ≤ a2) (by decide +kernel) (ev_k_ge ha2 ev_rng0) (by decide +kernel) ?_ ?_
      · intro c7
        refine ev_r_iconst (pc := 41) (k := 0) (by decide +kernel) ?_
        refine ev_r_istore (pc := 42) (k := 6) (by decide +kernel) (by decide +kernel) rfl ?_
        refine ev_r_iconst (pc := 44) (k := 0) (by decide +kernel) ?_
        refine ev_r_istore (pc := 45) (k := 7) (by decide +kernel) (by decide +kernel) rfl ?_
        exact jlt_182_47 d hd Q a2 r2 r4 ha2 hr2 hr4 c6   Q 0 (by decide) 0 (by decide) s3 _ (by exact (ev_l1 (ev_l1 (ev_l1 (ev_l1 (by rfl) (by decide) (by decide)) (by decide) (by decide)) (by decide) (by decide)) (by decide) (by decide))) (by exact (ev_l1 (ev_l1 (ev_l1 (ev_lk_st1 (by rfl) (by decide) rfl) (by decide) (by decide)) (by decide) (by decide)) (by decide) (by decide))) (by exact (ev_l1 (ev_l1 (ev_lk_st1 ev_lk_st1_self (by decide) (ev_nv_cat _)) (by decide) (by decide)) (by decide) (by decide))) (by exact (ev_l1 (ev_lk_st1 ev_lk_st1_self (by decide) (ev_nv_cat _)) (by decide) (by decide))) (by exact (ev_lk_st1 ev_lk_st1_self (by decide) rfl)) (by exact ev_lk_st1_self)
      · intro c7
        exact ev_r_throw (pc := 31) (x := (Sum.inr "java/lang/IndexOutOfBoundsException" : Int ⊕ String)) (y := 160) (E := "java/lang/IndexOutOfBoundsException") trivial (by decide +kernel) (by decide +kernel) (by decide +kernel) (Nat.ble_eq.mpr (by omega)) rfl
/-- MendBench.fill(I)I -/
def jm_183 (Q : Nat) (a0 : Int) (S : ev_St) : Option ((Int ⊕ String) × ev_St) := ev_bd (jm_1 Q a0 S) fun r2 s1 => if (r2 : Nat) = 0 then (some (.inr "java/lang/IndexOutOfBoundsException", ev_tick s1)) else (ev_b (s1.1 1 1) fun x4 => if x4 ≤ 80 then (ev_b (s1.1 ((r2 - 1)) 1) fun x6 => ev_b (s1.1 1 1) fun x7 => ev_bd (jm_4 Q a0 0 x6 ((2 + 1)) 0 x7 s1) fun _ s8 => ev_bd (jm_3 Q  s8) fun _ s9 => ev_b (ev_pI s9 1 1 0) fun s10 => ev_b (s10.1 ((r2 - 1)) 1) fun x11 => some ((Sum.inl x11 : Int ⊕ String), s10)) else (some (.inr "java/lang/IllegalStateException", ev_tick s1)))
theorem jt_183 (d : Nat) (hd : 6 ≤ d) (Q : Nat) (a0 : Int) (ha0 : ev_rng a0) (S : ev_St) (x : Int ⊕ String) (S' : ev_St) (hJ : jm_183 Q a0 S = some (x, S')) : ev_Ref d 183 [.ref 0, .int (Int32.ofInt a0)] S (ev_eX x) S' (ev_PX x) := by
  obtain ⟨d, rfl⟩ : ∃ e, d = e + 1 := ⟨d - 1, by omega⟩
  refine ev_ref_of (P := ev_PX) (lv := [(0, .ref 0), (1, .int (Int32.ofInt a0))]) (by decide +kernel) (by (try simp only [ev_sum, ev_nv_cat]); first | done | rfl) (by (try simp only [lv_args, ev_nv_cat]); first | done | rfl) ?_ x S' hJ
  unfold jm_183
  refine ev_r_aload_n (pc := 0) (k := 0) (v := .ref 0) trivial (by decide +kernel) (by rfl) ?_
  refine ev_r_getC (pc := 1) (y := 48) (ci := 12) (f := 8) (fin := 1) (k' := 254) (by decide +kernel) (by decide +kernel) (by exact ev_ob_0) rfl rfl ?_
  refine ev_r_iload_n (pc := 4) (k := 1) (v := Int32.ofInt a0) (by decide +kernel) (by rfl) ?_
  refine ev_r_virt (pc := 5) (y := 221) (mi := 1) (na := 1) (k := 254) (as := [.int (Int32.ofInt a0)]) (rest := []) (encc := ev_oR) (Q := (fun r => r = 0 ∨ ev_isOb (r - 1) 10 = true)) (fun x S1 h => jt_1 d (by omega) Q a0 ha0 S x S1 h) (by exact ev_ob_254) (by decide +kernel) (by decide +kernel) (by decide +kernel) (by decide +kernel) rfl (by (try simp only [ev_sum, ev_nv_cat]); first | done | rfl) ?_
  intro r2 s1 hr2
  show ev_w _ _ _ _ _ [ev_nv r2] _ _ _ _
  refine ev_r_astore_n (pc := 8) (k := 2) (ev_isR_nv _) (by decide +kernel) (by decide +kernel) rfl ?_
  refine ev_r_aload_n (pc := 9) (k := 2) (v := ev_nv r2) (ev_isR_nv _) (by decide +kernel) (by exact ev_lk_st1_self) ?_
  refine ev_r_ifnonnull (pc := 10) (r := r2) (o := 13) (t := 23) (by decide +kernel) (by decide +kernel) ?_ ?_
  · intro c3
    refine ev_r_aload_n (pc := 23) (k := 0) (v := .ref 0) trivial (by decide +kernel) (by exact (ev_l1 (by rfl) (by decide) (by decide))) ?_
    refine ev_r_getC (pc := 24) (y := 12) (ci := 12) (f := 0) (fin := 1) (k' := 1) (by decide +kernel) (by decide +kernel) (by exact ev_ob_0) rfl rfl ?_
    refine ev_r_getI (pc := 27) (y := 105) (ci := 10) (f := 1) (fin := 0) (by decide +kernel) (by decide +kernel) (by exact ev_ob_1) rfl ?_
    intro x4 hx4
    refine ev_r_bipush (pc := 30) (k := 80) (by decide +kernel) (by decide +kernel) ?_
    refine ev_r_icmp (pc := 32) (q := .le) (o := 13) (t := 45) (c := x4 ≤ 80) (by decide +kernel) (ev_k_le hx4 (by decide)) (by decide +kernel) ?_ ?_
    · intro c5
      refine ev_r_aload_n (pc := 45) (k := 0) (v := .ref 0) trivial (by decide +kernel) (by exact (ev_l1 (by rfl) (by decide) (by decide))) ?_
      refine ev_r_getC (pc := 46) (y := 48) (ci := 12) (f := 8) (fin := 1) (k' := 254) (by decide +kernel) (by decide +kernel) (by exact ev_ob_0) rfl rfl ?_
      refine ev_r_iload_n (pc := 49) (k := 1) (v := Int32.ofInt a0) (by decide +kernel) (by exact (ev_lk_st1 (by rfl) (by decide) rfl)) ?_
      refine ev_r_iconst (pc := 50) (k := 0) (by decide +kernel) ?_
      refine ev_r_aload_n (pc := 51) (k := 2) (v := ev_nv r2) (ev_isR_nv _) (by decide +kernel) (by exact ev_lk_st1_self) ?_
      refine ev_r_dr (r := r2) (fun v => [v, .int (Int32.ofInt 0), .int (Int32.ofInt a0), .ref 254]) c3 ?_
      refine ev_r_getI (pc := 52) (y := 105) (ci := 10) (f := 1) (fin := 0) (by decide +kernel) (by decide +kernel) (by exact (hr2.resolve_left c3)) rfl ?_
      intro x6 hx6
      refine ev_r_aload_n (pc := 55) (k := 0) (v := .ref 0) trivial (by decide +kernel) (by exact (ev_l1 (by rfl) (by decide) (by decide))) ?_
      refine ev_r_getC (pc := 56) (y := 12) (ci := 12) (f := 0) (fin := 1) (k' := 1) (by decide +kernel) (by decide +kernel) (by exact ev_ob_0) rfl rfl ?_
      refine ev_r_getC (pc := 59) (y := 251) (ci := 10) (f := 0) (fin := 2) (k' := 2) (by decide +kernel) (by decide +kernel) (by exact ev_ob_1) rfl rfl ?_
      refine ev_r_iconst (pc := 62) (k := 0) (by decide +kernel) ?_
      refine ev_r_aload_n (pc := 63) (k := 0) (v := .ref 0) trivial (by decide +kernel) (by exact (ev_l1 (by rfl) (by decide) (by decide))) ?_
      refine ev_r_getC (pc := 64) (y := 12) (ci := 12) (f := 0) (fin := 1) (k' := 1) (by decide +kernel) (by decide +kernel) (by exact ev_ob_0) rfl rfl ?_
      refine ev_r_getI (pc := 67) (y := 105) (ci := 10) (f := 1) (fin := 0) (by decide +kernel) (by decide +kernel) (by exact ev_ob_1) rfl ?_
      intro x7 hx7
      refine ev_r_virt (pc := 70) (y := 254) (mi := 4) (na := 6) (k := 254) (as := [.int (Int32.ofInt a0), .int (Int32.ofInt 0), .int (Int32.ofInt x6), ev_nv ((2 + 1)), .int (Int32.ofInt 0), .int (Int32.ofInt x7)]) (rest := []) (encc := ev_oU) (Q := ev_PU) (fun x S1 h => jt_4 d (by omega) Q a0 0 x6 ((2 + 1)) 0 x7 ha0 (by decide) hx6 (by exact (Or.inr ev_ab_2)) (by decide) hx7 s1 x S1 h) (by exact ev_ob_254) (by decide +kernel) (by decide +kernel) (by decide +kernel) (by decide +kernel) rfl (by (try simp only [ev_sum, ev_nv_cat]); first | done | rfl) ?_
      intro _ s8 _
      show ev_w _ _ _ _ _ [] _ _ _ _
      refine ev_r_aload_n (pc := 73) (k := 0) (v := .ref 0) trivial (by decide +kernel) (by exact (ev_l1 (by rfl) (by decide) (by decide))) ?_
      refine ev_r_getC (pc := 74) (y := 48) (ci := 12) (f := 8) (fin := 1) (k' := 254) (by decide +kernel) (by decide +kernel) (by exact ev_ob_0) rfl rfl ?_
      refine ev_r_virt (pc := 77) (y := 258) (mi := 3) (na := 0) (k := 254) (as := []) (rest := []) (encc := ev_oU) (Q := ev_PU) (fun x S1 h => jt_3 d (by omega) Q   s8 x S1 h) (by exact ev_ob_254) (by decide +kernel) (by decide +kernel) (by decide +kernel) (by decide +kernel) rfl (by (try simp only [ev_sum, ev_nv_cat]); first | done | rfl) ?_
      intro _ s9 _
      show ev_w _ _ _ _ _ [] _ _ _ _
      refine ev_r_aload_n (pc := 80) (k := 0) (v := .ref 0) trivial (by decide +kernel) (by exact (ev_l1 (by rfl) (by decide) (by decide))) ?_
      refine ev_r_getC (pc := 81) (y := 12) (ci := 12) (f := 0) (fin := 1) (k' := 1) (by decide +kernel) (by decide +kernel) (by exact ev_ob_0) rfl rfl ?_
      refine ev_r_iconst (pc := 84) (k := 0) (by decide +kernel) ?_
      refine ev_r_putI (pc := 85) (y := 105) (ci := 10) (f := 1) (by decide) (by decide +kernel) (by decide +kernel) (by exact ev_ob_1) rfl rfl ?_
      intro s10
      refine ev_r_aload_n (pc := 88) (k := 2) (v := ev_nv r2) (ev_isR_nv _) (by decide +kernel) (by exact ev_lk_st1_self) ?_
      refine ev_r_dr (r := r2) (fun v => [v]) c3 ?_
      refine ev_r_getI (pc := 89) (y := 105) (ci := 10) (f := 1) (fin := 0) (by decide +kernel) (by decide +kernel) (by exact (hr2.resolve_left c3)) rfl ?_
      intro x11 hx11
      exact ev_r_ireturn (pc := 92) (x := (Sum.inl x11 : Int ⊕ String)) (v := Int32.ofInt x11) (ty := .int) hx11 (by decide +kernel) (by decide +kernel) rfl rfl
    · intro c5
      exact ev_r_throw (pc := 35) (x := (Sum.inr "java/lang/IllegalStateException" : Int ⊕ String)) (y := 109) (E := "java/lang/IllegalStateException") trivial (by decide +kernel) (by decide +kernel) (by decide +kernel) (Nat.ble_eq.mpr (by omega)) rfl
  · intro c3
    exact ev_r_throw (pc := 13) (x := (Sum.inr "java/lang/IndexOutOfBoundsException" : Int ⊕ String)) (y := 160) (E := "java/lang/IndexOutOfBoundsException") trivial (by decide +kernel) (by decide +kernel) (by decide +kernel) (Nat.ble_eq.mpr (by omega)) rfl
/-- MendBench.size(I)I -/
def jm_184 (Q : Nat) (a0 : Int) (S : ev_St) : Option ((Int ⊕ String) × ev_St) := ev_bd (jm_1 Q a0 S) fun r2 s1 => if (r2 : Nat) = 0 then (some (.inr "java/lang/IndexOutOfBoundsException", ev_tick s1)) else (ev_b (s1.1 ((r2 - 1)) 1) fun x4 => some ((Sum.inl x4 : Int ⊕ String), s1))
theorem jt_184 (d : Nat) (hd : 6 ≤ d) (Q : Nat) (a0 : Int) (ha0 : ev_rng a0) (S : ev_St) (x : Int ⊕ String) (S' : ev_St) (hJ : jm_184 Q a0 S = some (x, S')) : ev_Ref d 184 [.ref 0, .int (Int32.ofInt a0)] S (ev_eX x) S' (ev_PX x) := by
  obtain ⟨d, rfl⟩ : ∃ e, d = e + 1 := ⟨d - 1, by omega⟩
  refine ev_ref_of (P := ev_PX) (lv := [(0, .ref 0), (1, .int (Int32.ofInt a0))]) (by decide +kernel) (by (try simp only [ev_sum, ev_nv_cat]); first | done | rfl) (by (try simp only [lv_args, ev_nv_cat]); first | done | rfl) ?_ x S' hJ
  unfold jm_184
  refine ev_r_aload_n (pc := 0) (k := 0) (v := .ref 0) trivial (by decide +kernel) (by rfl) ?_
  refine ev_r_getC (pc := 1) (y := 48) (ci := 12) (f := 8) (fin := 1) (k' := 254) (by decide +kernel) (by decide +kernel) (by exact ev_ob_0) rfl rfl ?_
  refine ev_r_iload_n (pc := 4) (k := 1) (v := Int32.ofInt a0) (by decide +kernel) (by rfl) ?_
  refine ev_r_virt (pc := 5) (y := 221) (mi := 1) (na := 1) (k := 254) (as := [.int (Int32.ofInt a0)]) (rest := []) (encc := ev_oR) (Q := (fun r => r = 0 ∨ ev_isOb (r - 1) 10 = true)) (fun x S1 h => jt_1 d (by omega) Q a0 ha0 S x S1 h) (by exact ev_ob_254) (by decide +kernel) (by decide +kernel) (by decide +kernel) (by decide +kernel) rfl (by (try simp only [ev_sum, ev_nv_cat]); first | done | rfl) ?_
  intro r2 s1 hr2
  show ev_w _ _ _ _ _ [ev_nv r2] _ _ _ _
  refine ev_r_astore_n (pc := 8) (k := 2) (ev_isR_nv _) (by decide +kernel) (by decide +kernel) rfl ?_
  refine ev_r_aload_n (pc := 9) (k := 2) (v := ev_nv r2) (ev_isR_nv _) (by decide +kernel) (by exact ev_lk_st1_self) ?_
  refine ev_r_ifnonnull (pc := 10) (r := r2) (o := 13) (t := 23) (by decide +kernel) (by decide +kernel) ?_ ?_
  · intro c3
    refine ev_r_aload_n (pc := 23) (k := 2) (v := ev_nv r2) (ev_isR_nv _) (by decide +kernel) (by exact ev_lk_st1_self) ?_
    refine ev_r_dr (r := r2) (fun v => [v]) c3 ?_
    refine ev_r_getI (pc := 24) (y := 105) (ci := 10) (f := 1) (fin := 0) (by decide +kernel) (by decide +kernel) (by exact (hr2.resolve_left c3)) rfl ?_
    intro x4 hx4
    exact ev_r_ireturn (pc := 27) (x := (Sum.inl x4 : Int ⊕ String)) (v := Int32.ofInt x4) (ty := .int) hx4 (by decide +kernel) (by decide +kernel) rfl rfl
  · intro c3
    exact ev_r_throw (pc := 13) (x := (Sum.inr "java/lang/IndexOutOfBoundsException" : Int ⊕ String)) (y := 160) (E := "java/lang/IndexOutOfBoundsException") trivial (by decide +kernel) (by decide +kernel) (by decide +kernel) (Nat.ble_eq.mpr (by omega)) rfl
/-- MendBench.sign(II)C -/
def jm_185 (Q : Nat) (a0 : Int) (a1 : Int) (S : ev_St) : Option ((Int ⊕ String) × ev_St) := ev_bd (jm_1 Q a0 S) fun r2 s1 => if (r2 : Nat) = 0 then (some (.inr "java/lang/IndexOutOfBoundsException", ev_tick s1)) else (if a1 < 0 then (some (.inr "java/lang/IndexOutOfBoundsException", ev_tick s1)) else (ev_b (s1.1 ((r2 - 1)) 1) fun x5 => if a1 < x5 then (ev_bd (jm_151 Q ((r2 - 1)) a1 s1) fun x8 s7 => ev_b (ev_i2c x8) fun x9 => ev_if (ev_retOk .char (.int (Int32.ofInt x9)) = true) (some ((Sum.inl x9 : Int ⊕ String), s7))) else (some (.inr "java/lang/IndexOutOfBoundsException", ev_tick s1))))
theorem jt_185 (d : Nat) (hd : 6 ≤ d) (Q : Nat) (a0 : Int) (a1 : Int) (ha0 : ev_rng a0) (ha1 : ev_rng a1) (S : ev_St) (x : Int ⊕ String) (S' : ev_St) (hJ : jm_185 Q a0 a1 S = some (x, S')) : ev_Ref d 185 [.ref 0, .int (Int32.ofInt a0), .int (Int32.ofInt a1)] S (ev_eX x) S' (ev_PX x) := by
  obtain ⟨d, rfl⟩ : ∃ e, d = e + 1 := ⟨d - 1, by omega⟩
  refine ev_ref_of (P := ev_PX) (lv := [(0, .ref 0), (1, .int (Int32.ofInt a0)), (2, .int (Int32.ofInt a1))]) (by decide +kernel) (by (try simp only [ev_sum, ev_nv_cat]); first | done | rfl) (by (try simp only [lv_args, ev_nv_cat]); first | done | rfl) ?_ x S' hJ
  unfold jm_185
  refine ev_r_aload_n (pc := 0) (k := 0) (v := .ref 0) trivial (by decide +kernel) (by rfl) ?_
  refine ev_r_getC (pc := 1) (y := 48) (ci := 12) (f := 8) (fin := 1) (k' := 254) (by decide +kernel) (by decide +kernel) (by exact ev_ob_0) rfl rfl ?_
  refine ev_r_iload_n (pc := 4) (k := 1) (v := Int32.ofInt a0) (by decide +kernel) (by rfl) ?_
  refine ev_r_virt (pc := 5) (y := 221) (mi := 1) (na := 1) (k := 254) (as := [.int (Int32.ofInt a0)]) (rest := []) (encc := ev_oR) (Q := (fun r => r = 0 ∨ ev_isOb (r - 1) 10 = true)) (fun x S1 h => jt_1 d (by omega) Q a0 ha0 S x S1 h) (by exact ev_ob_254) (by decide +kernel) (by decide +kernel) (by decide +kernel) (by decide +kernel) rfl (by (try simp only [ev_sum, ev_nv_cat]); first | done | rfl) ?_
  intro r2 s1 hr2
  show ev_w _ _ _ _ _ [ev_nv r2] _ _ _ _
  refine ev_r_astore_n (pc := 8) (k := 3) (ev_isR_nv _) (by decide +kernel) (by decide +kernel) rfl ?_
  refine ev_r_aload_n (pc := 9) (k := 3) (v := ev_nv r2) (ev_isR_nv _) (by decide +kernel) (by exact ev_lk_st1_self) ?_
  refine ev_r_ifnull (pc := 10) (r := r2) (o := 15) (t := 25) (by decide +kernel) (by decide +kernel) ?_ ?_
  · intro c3
    exact ev_r_throw (pc := 25) (x := (Sum.inr "java/lang/IndexOutOfBoundsException" : Int ⊕ String)) (y := 160) (E := "java/lang/IndexOutOfBoundsException") trivial (by decide +kernel) (by decide +kernel) (by decide +kernel) (Nat.ble_eq.mpr (by omega)) rfl
  · intro c3
    refine ev_r_iload_n (pc := 13) (k := 2) (v := Int32.ofInt a1) (by decide +kernel) (by exact (ev_lk_st1 (by rfl) (by decide) rfl)) ?_
    refine ev_r_if (pc := 14) (q := .lt) (o := 11) (t := 25) (c := a1 < 0) (by decide +kernel) (ev_k_lt ha1 ev_rng0) (by decide +kernel) ?_ ?_
    · intro c4
      exact ev_r_throw (pc := 25) (x := (Sum.inr "java/lang/IndexOutOfBoundsException" : Int ⊕ String)) (y := 160) (E := "java/lang/IndexOutOfBoundsException") trivial (by decide +kernel) (by decide +kernel) (by decide +kernel) (Nat.ble_eq.mpr (by omega)) rfl
    · intro c4
      refine ev_r_iload_n (pc := 17) (k := 2) (v := Int32.ofInt a1) (by decide +kernel) (by exact (ev_lk_st1 (by rfl) (by decide) rfl)) ?_
      refine ev_r_aload_n (pc := 18) (k := 3) (v := ev_nv r2) (ev_isR_nv _) (by decide +kernel) (by exact ev_lk_st1_self) ?_
      refine ev_r_dr (r := r2) (fun v => [v, .int (Int32.ofInt a1)]) c3 ?_
      refine ev_r_getI (pc := 19) (y := 105) (ci := 10) (f := 1) (fin := 0) (by decide +kernel) (by decide +kernel) (by exact (hr2.resolve_left c3)) rfl ?_
      intro x5 hx5
      refine ev_r_icmp (pc := 22) (q := .lt) (o := 14) (t := 36) (c := a1 < x5) (by decide +kernel) (ev_k_lt ha1 hx5) (by decide +kernel) ?_ ?_
      · intro c6
        refine ev_r_aload_n (pc := 36) (k := 3) (v := ev_nv r2) (ev_isR_nv _) (by decide +kernel) (by exact ev_lk_st1_self) ?_
        refine ev_r_iload_n (pc := 37) (k := 2) (v := Int32.ofInt a1) (by decide +kernel) (by exact (ev_lk_st1 (by rfl) (by decide) rfl)) ?_
        refine ev_r_dr (r := r2) (fun v => [.int (Int32.ofInt a1), v]) c3 ?_
        refine ev_r_virt (pc := 38) (y := 199) (mi := 151) (na := 1) (k := (r2 - 1)) (as := [.int (Int32.ofInt a1)]) (rest := []) (encc := ev_oI) (Q := ev_rng) (fun x S1 h => jt_151 d (by omega) Q ((r2 - 1)) a1 (hr2.resolve_left c3) ha1 s1 x S1 h) (by exact (hr2.resolve_left c3)) (by decide +kernel) (by decide +kernel) (by decide +kernel) (by decide +kernel) rfl (by (try simp only [ev_sum, ev_nv_cat]); first | done | rfl) ?_
        intro x8 s7 hx8
        show ev_w _ _ _ _ _ [.int (Int32.ofInt x8)] _ _ _ _
        refine ev_r_toI (pc := 41) (i := .i2c) (len := 1) (pc' := 42) (by decide +kernel) rfl ?_
        intro x9 hx9
        refine ev_r_chk ?_
        intro c10
        exact ev_r_ireturn (pc := 42) (x := (Sum.inl x9 : Int ⊕ String)) (v := Int32.ofInt x9) (ty := .char) hx9 (by decide +kernel) (by decide +kernel) c10 rfl
      · intro c6
        exact ev_r_throw (pc := 25) (x := (Sum.inr "java/lang/IndexOutOfBoundsException" : Int ⊕ String)) (y := 160) (E := "java/lang/IndexOutOfBoundsException") trivial (by decide +kernel) (by decide +kernel) (by decide +kernel) (Nat.ble_eq.mpr (by omega)) rfl
/-- MendBench.templateAt(I)LMendBench$Text; -/
def jm_201 (Q : Nat) (a0 : Int) (S : ev_St) : Option ((Nat) × ev_St) := if a0 < 0 then (some (0, S)) else (ev_b (S.1 0 7) fun x2 => if x2 ≤ a0 then (some (0, S)) else (if 8 ≤ a0 then (some (0, S)) else (ev_if ((0 : Int) ≤ a0 ∧ a0 < (8 : Int)) (ev_b (553 + 2 * Int.toNat a0) fun _ => some (((553 + 2 * Int.toNat a0)) + 1, S)))))
theorem jt_201 (d : Nat) (hd : 1 ≤ d) (Q : Nat) (a0 : Int) (ha0 : ev_rng a0) (S : ev_St) (x : Nat) (S' : ev_St) (hJ : jm_201 Q a0 S = some (x, S')) : ev_Ref d 201 [.ref 0, .int (Int32.ofInt a0)] S (ev_eR x) S' ((fun r => r = 0 ∨ ev_isOb (r - 1) 10 = true) x) := by
  obtain ⟨d, rfl⟩ : ∃ e, d = e + 1 := ⟨d - 1, by omega⟩
  refine ev_ref_of (P := (fun r => r = 0 ∨ ev_isOb (r - 1) 10 = true)) (lv := [(0, .ref 0), (1, .int (Int32.ofInt a0))]) (by decide +kernel) (by (try simp only [ev_sum, ev_nv_cat]); first | done | rfl) (by (try simp only [lv_args, ev_nv_cat]); first | done | rfl) ?_ x S' hJ
  unfold jm_201
  refine ev_r_iload_n (pc := 0) (k := 1) (v := Int32.ofInt a0) (by decide +kernel) (by rfl) ?_
  refine ev_r_if (pc := 1) (q := .lt) (o := 26) (t := 27) (c := a0 < 0) (by decide +kernel) (ev_k_lt ha0 ev_rng0) (by decide +kernel) ?_ ?_
  · intro c1
    refine ev_r_null (pc := 27) (by decide +kernel) ?_
    exact ev_r_areturn (pc := 28) (x := 0) (r := 0) (C := "MendBench$Text") (Or.inl rfl) (by decide +kernel) (by decide +kernel) rfl
  · intro c1
    refine ev_r_iload_n (pc := 4) (k := 1) (v := Int32.ofInt a0) (by decide +kernel) (by rfl) ?_
    refine ev_r_aload_n (pc := 5) (k := 0) (v := .ref 0) trivial (by decide +kernel) (by rfl) ?_
    refine ev_r_getI (pc := 6) (y := 143) (ci := 12) (f := 7) (fin := 0) (by decide +kernel) (by decide +kernel) (by exact ev_ob_0) rfl ?_
    intro x2 hx2
    refine ev_r_icmp (pc := 9) (q := .ge) (o := 18) (t := 27) (c := x2 ≤ a0) (by decide +kernel) (ev_k_ge ha0 hx2) (by decide +kernel) ?_ ?_
    · intro c3
      refine ev_r_null (pc := 27) (by decide +kernel) ?_
      exact ev_r_areturn (pc := 28) (x := 0) (r := 0) (C := "MendBench$Text") (Or.inl rfl) (by decide +kernel) (by decide +kernel) rfl
    · intro c3
      refine ev_r_iload_n (pc := 12) (k := 1) (v := Int32.ofInt a0) (by decide +kernel) (by rfl) ?_
      refine ev_r_bipush (pc := 13) (k := 8) (by decide +kernel) (by decide +kernel) ?_
      refine ev_r_icmp (pc := 15) (q := .ge) (o := 12) (t := 27) (c := 8 ≤ a0) (by decide +kernel) (ev_k_ge ha0 (by decide)) (by decide +kernel) ?_ ?_
      · intro c4
        refine ev_r_null (pc := 27) (by decide +kernel) ?_
        exact ev_r_areturn (pc := 28) (x := 0) (r := 0) (C := "MendBench$Text") (Or.inl rfl) (by decide +kernel) (by decide +kernel) rfl
      · intro c4
        refine ev_r_aload_n (pc := 18) (k := 0) (v := .ref 0) trivial (by decide +kernel) (by rfl) ?_
        refine ev_r_getC (pc := 19) (y := 41) (ci := 12) (f := 6) (fin := 1) (k' := 253) (by decide +kernel) (by decide +kernel) (by exact ev_ob_0) rfl rfl ?_
        refine ev_r_iload_n (pc := 22) (k := 1) (v := Int32.ofInt a0) (by decide +kernel) (by rfl) ?_
        refine ev_r_aald (pc := 23) (N := 8) (b := 553) (c := 2) (C := "MendBench$Text") ha0 (by decide +kernel) (by decide +kernel) ?_
        intro c5
        refine ev_r_goto (pc := 24) (o := 4) (t := 28) (by decide +kernel) (by decide +kernel) ?_
        exact ev_r_areturn (pc := 28) (x := ((553 + 2 * Int.toNat a0)) + 1) (r := ((553 + 2 * Int.toNat a0)) + 1) (C := "MendBench$Text") (Or.inr (ev_el_253 c5)) (by decide +kernel) (by decide +kernel) rfl
/-- MendBench.recordReplacement(III)V -/
def jm_206 (Q : Nat) (a0 : Int) (a1 : Int) (a2 : Int) (S : ev_St) : Option ((Unit) × ev_St) := ev_b (S.1 0 15) fun x1 => ev_jn (fun (x2 : Int) (s8 : ev_St) => if x2 < 0 then (some ((), s8)) else (ev_ck (x2 + 2) fun x10 => if 30 ≤ x10 then (some ((), s8)) else (ev_b (s8.1 0 15) fun x12 => ev_if ((0 : Int) ≤ x12 ∧ x12 < (6 : Int)) (ev_b (305 + 1 * Int.toNat x12) fun _ => ev_if ((0 : Int) ≤ x2 ∧ x2 < (ev_aln ((305 + 1 * Int.toNat x12)) : Int)) (ev_b (ev_pI s8 ((305 + 1 * Int.toNat x12)) (Int.toNat x2) a0) fun s15 => ev_b (s15.1 0 15) fun x16 => ev_if ((0 : Int) ≤ x16 ∧ x16 < (6 : Int)) (ev_b (305 + 1 * Int.toNat x16) fun _ => ev_ck (x2 + 1) fun x19 => ev_if ((0 : Int) ≤ x19 ∧ x19 < (ev_aln ((305 + 1 * Int.toNat x16)) : Int)) (ev_b (ev_pI s15 ((305 + 1 * Int.toNat x16)) (Int.toNat x19) a1) fun s20 => ev_b (s20.1 0 15) fun x21 => ev_if ((0 : Int) ≤ x21 ∧ x21 < (6 : Int)) (ev_b (305 + 1 * Int.toNat x21) fun _ => ev_ck (x2 + 2) fun x24 => ev_if ((0 : Int) ≤ x24 ∧ x24 < (ev_aln ((305 + 1 * Int.toNat x21)) : Int)) (ev_b (ev_pI s20 ((305 + 1 * Int.toNat x21)) (Int.toNat x24) a2) fun s25 => ev_b (s25.1 0 15) fun x26 => ev_if ((0 : Int) ≤ x26 ∧ x26 < (ev_aln 311 : Int)) (ev_b (s25.1 311 (Int.toNat x26)) fun x27 => ev_ck (x27 + 1) fun x28 => ev_if ((0 : Int) ≤ x26 ∧ x26 < (ev_aln 311 : Int)) (ev_b (ev_pI s25 311 (Int.toNat x26) x28) fun s29 => some ((), s29)))))))))))) fun K24 => if 6 ≤ x1 then (K24 ((-1)) S) else (ev_b (S.1 0 15) fun x31 => ev_if ((0 : Int) ≤ x31 ∧ x31 < (ev_aln 311 : Int)) (ev_b (S.1 311 (Int.toNat x31)) fun x32 => ev_ck (3 * x32) fun x33 => K24 x33 S))
theorem jt_206 (d : Nat) (hd : 1 ≤ d) (Q : Nat) (a0 : Int) (a1 : Int) (a2 : Int) (ha0 : ev_rng a0) (ha1 : ev_rng a1) (ha2 : ev_rng a2) (S : ev_St) (x : Unit) (S' : ev_St) (hJ : jm_206 Q a0 a1 a2 S = some (x, S')) : ev_Ref d 206 [.ref 0, .int (Int32.ofInt a0), .int (Int32.ofInt a1), .int (Int32.ofInt a2)] S (ev_eU x) S' (ev_PU x) := by
  obtain ⟨d, rfl⟩ : ∃ e, d = e + 1 := ⟨d - 1, by omega⟩
  refine ev_ref_of (P := ev_PU) (lv := [(0, .ref 0), (1, .int (Int32.ofInt a0)), (2, .int (Int32.ofInt a1)), (3, .int (Int32.ofInt a2))]) (by decide +kernel) (by (try simp only [ev_sum, ev_nv_cat]); first | done | rfl) (by (try simp only [lv_args, ev_nv_cat]); first | done | rfl) ?_ x S' hJ
  unfold jm_206
  refine ev_r_aload_n (pc := 0) (k := 0) (v := .ref 0) trivial (by decide +kernel) (by rfl) ?_
  refine ev_r_getI (pc := 1) (y := 273) (ci := 12) (f := 15) (fin := 0) (by decide +kernel) (by decide +kernel) (by exact ev_ob_0) rfl ?_
  intro x1 hx1
  refine ev_r_bipush (pc := 4) (k := 6) (by decide +kernel) (by decide +kernel) ?_
  refine ev_r_jn (Q := fun K => ∀ (x2 : Int) (hx2 : ev_rng x2), ∀ (s8 : ev_St) (w3 : List (Nat × Value)), ev_lk w3 0 = some (.ref 0) → ev_lk w3 1 = some (.int (Int32.ofInt a0)) → ev_lk w3 2 = some (.int (Int32.ofInt a1)) → ev_lk w3 3 = some (.int (Int32.ofInt a2)) → ev_w none (ev_Mof 206) d 24 w3 [.int (Int32.ofInt x2)] s8 (K x2 s8) ev_eU ev_PU) ?_ ?_
  · intro x2 hx2 s8 w3 e4 e5 e6 e7
    refine ev_r_istore (pc := 24) (k := 4) (by decide +kernel) (by decide +kernel) rfl ?_
    refine ev_r_iload (pc := 26) (k := 4) (v := Int32.ofInt x2) (by decide +kernel) (by exact ev_lk_st1_self) ?_
    refine ev_r_if (pc := 28) (q := .lt) (o := 68) (t := 96) (c := x2 < 0) (by decide +kernel) (ev_k_lt hx2 ev_rng0) (by decide +kernel) ?_ ?_
    · intro c9
      exact ev_r_return (pc := 96) (x := ()) trivial (by decide +kernel) (by decide +kernel) rfl
    · intro c9
      refine ev_r_iload (pc := 31) (k := 4) (v := Int32.ofInt x2) (by decide +kernel) (by exact ev_lk_st1_self) ?_
      refine ev_r_iconst (pc := 33) (k := 2) (by decide +kernel) ?_
      refine ev_r_iadd (pc := 34) (by decide +kernel) ?_
      intro x10 hx10
      refine ev_r_bipush (pc := 35) (k := 30) (by decide +kernel) (by decide +kernel) ?_
      refine ev_r_icmp (pc := 37) (q := .ge) (o := 59) (t := 96) (c := 30 ≤ x10) (by decide +kernel) (ev_k_ge hx10 (by decide)) (by decide +kernel) ?_ ?_
      · intro c11
        exact ev_r_return (pc := 96) (x := ()) trivial (by decide +kernel) (by decide +kernel) rfl
      · intro c11
        refine ev_r_aload_n (pc := 40) (k := 0) (v := .ref 0) trivial (by decide +kernel) (by exact (ev_l1 e4 (by decide) (by decide))) ?_
        refine ev_r_getC (pc := 41) (y := 80) (ci := 12) (f := 13) (fin := 1) (k' := 304) (by decide +kernel) (by decide +kernel) (by exact ev_ob_0) rfl rfl ?_
        refine ev_r_aload_n (pc := 44) (k := 0) (v := .ref 0) trivial (by decide +kernel) (by exact (ev_l1 e4 (by decide) (by decide))) ?_
        refine ev_r_getI (pc := 45) (y := 273) (ci := 12) (f := 15) (fin := 0) (by decide +kernel) (by decide +kernel) (by exact ev_ob_0) rfl ?_
        intro x12 hx12
        refine ev_r_aalda (pc := 48) (N := 6) (b := 305) (c := 1) (C := .int) hx12 (by decide +kernel) (by decide +kernel) ?_
        intro c13
        refine ev_r_iload (pc := 49) (k := 4) (v := Int32.ofInt x2) (by decide +kernel) (by exact ev_lk_st1_self) ?_
        refine ev_r_iload_n (pc := 51) (k := 1) (v := Int32.ofInt a0) (by decide +kernel) (by exact (ev_l1 e5 (by decide) (by decide))) ?_
        refine ev_r_iast (pc := 52) ha0 hx2 (by decide +kernel) (by exact (ev_el_304 c13)) ?_
        intro s15
        refine ev_r_aload_n (pc := 53) (k := 0) (v := .ref 0) trivial (by decide +kernel) (by exact (ev_l1 e4 (by decide) (by decide))) ?_
        refine ev_r_getC (pc := 54) (y := 80) (ci := 12) (f := 13) (fin := 1) (k' := 304) (by decide +kernel) (by decide +kernel) (by exact ev_ob_0) rfl rfl ?_
        refine ev_r_aload_n (pc := 57) (k := 0) (v := .ref 0) trivial (by decide +kernel) (by exact (ev_l1 e4 (by decide) (by decide))) ?_
        refine ev_r_getI (pc := 58) (y := 273) (ci := 12) (f := 15) (fin := 0) (by decide +kernel) (by decide +kernel) (by exact ev_ob_0) rfl ?_
        intro x16 hx16
        refine ev_r_aalda (pc := 61) (N := 6) (b := 305) (c := 1) (C := .int) hx16 (by decide +kernel) (by decide +kernel) ?_
        intro c17
        refine ev_r_iload (pc := 62) (k := 4) (v := Int32.ofInt x2) (by decide +kernel) (by exact ev_lk_st1_self) ?_
        refine ev_r_iconst (pc := 64) (k := 1) (by decide +kernel) ?_
        refine ev_r_iadd (pc := 65) (by decide +kernel) ?_
        intro x19 hx19
        refine ev_r_iload_n (pc := 66) (k := 2) (v := Int32.ofInt a1) (by decide +kernel) (by exact (ev_l1 e6 (by decide) (by decide))) ?_
        refine ev_r_iast (pc := 67) ha1 hx19 (by decide +kernel) (by exact (ev_el_304 c17)) ?_
        intro s20
        refine ev_r_aload_n (pc := 68) (k := 0) (v := .ref 0) trivial (by decide +kernel) (by exact (ev_l1 e4 (by decide) (by decide))) ?_
        refine ev_r_getC (pc := 69) (y := 80) (ci := 12) (f := 13) (fin := 1) (k' := 304) (by decide +kernel) (by decide +kernel) (by exact ev_ob_0) rfl rfl ?_
        refine ev_r_aload_n (pc := 72) (k := 0) (v := .ref 0) trivial (by decide +kernel) (by exact (ev_l1 e4 (by decide) (by decide))) ?_
        refine ev_r_getI (pc := 73) (y := 273) (ci := 12) (f := 15) (fin := 0) (by decide +kernel) (by decide +kernel) (by exact ev_ob_0) rfl ?_
        intro x21 hx21
        refine ev_r_aalda (pc := 76) (N := 6) (b := 305) (c := 1) (C := .int) hx21 (by decide +kernel) (by decide +kernel) ?_
        intro c22
        refine ev_r_iload (pc := 77) (k := 4) (v := Int32.ofInt x2) (by decide +kernel) (by exact ev_lk_st1_self) ?_
        refine ev_r_iconst (pc := 79) (k := 2) (by decide +kernel) ?_
        refine ev_r_iadd (pc := 80) (by decide +kernel) ?_
        intro x24 hx24
        refine ev_r_iload_n (pc := 81) (k := 3) (v := Int32.ofInt a2) (by decide +kernel) (by exact (ev_lk_st1 e7 (by decide) rfl)) ?_
        refine ev_r_iast (pc := 82) ha2 hx24 (by decide +kernel) (by exact (ev_el_304 c22)) ?_
        intro s25
        refine ev_r_aload_n (pc := 83) (k := 0) (v := .ref 0) trivial (by decide +kernel) (by exact (ev_l1 e4 (by decide) (by decide))) ?_
        refine ev_r_getC (pc := 84) (y := 83) (ci := 12) (f := 14) (fin := 1) (k' := 311) (by decide +kernel) (by decide +kernel) (by exact ev_ob_0) rfl rfl ?_
        refine ev_r_aload_n (pc := 87) (k := 0) (v := .ref 0) trivial (by decide +kernel) (by exact (ev_l1 e4 (by decide) (by decide))) ?_
        refine ev_r_getI (pc := 88) (y := 273) (ci := 12) (f := 15) (fin := 0) (by decide +kernel) (by decide +kernel) (by exact ev_ob_0) rfl ?_
        intro x26 hx26
        refine ev_r_dup2 (pc := 91) rfl rfl (by decide +kernel) ?_
        refine ev_r_iald (pc := 92) hx26 (by decide +kernel) (by exact ev_ab_311) ?_
        intro x27 hx27
        refine ev_r_iconst (pc := 93) (k := 1) (by decide +kernel) ?_
        refine ev_r_iadd (pc := 94) (by decide +kernel) ?_
        intro x28 hx28
        refine ev_r_iast (pc := 95) hx28 hx26 (by decide +kernel) (by exact ev_ab_311) ?_
        intro s29
        exact ev_r_return (pc := 96) (x := ()) trivial (by decide +kernel) (by decide +kernel) rfl
  · intro K24 hK24
    refine ev_r_icmp (pc := 6) (q := .ge) (o := 17) (t := 23) (c := 6 ≤ x1) (by decide +kernel) (ev_k_ge hx1 (by decide)) (by decide +kernel) ?_ ?_
    · intro c30
      refine ev_r_iconst (pc := 23) (k := -1) (by decide +kernel) ?_
      exact hK24 ((-1)) (by decide) S _ (by rfl) (by rfl) (by rfl) (by rfl)
    · intro c30
      refine ev_r_iconst (pc := 9) (k := 3) (by decide +kernel) ?_
      refine ev_r_aload_n (pc := 10) (k := 0) (v := .ref 0) trivial (by decide +kernel) (by rfl) ?_
      refine ev_r_getC (pc := 11) (y := 83) (ci := 12) (f := 14) (fin := 1) (k' := 311) (by decide +kernel) (by decide +kernel) (by exact ev_ob_0) rfl rfl ?_
      refine ev_r_aload_n (pc := 14) (k := 0) (v := .ref 0) trivial (by decide +kernel) (by rfl) ?_
      refine ev_r_getI (pc := 15) (y := 273) (ci := 12) (f := 15) (fin := 0) (by decide +kernel) (by decide +kernel) (by exact ev_ob_0) rfl ?_
      intro x31 hx31
      refine ev_r_iald (pc := 18) hx31 (by decide +kernel) (by exact ev_ab_311) ?_
      intro x32 hx32
      refine ev_r_imul (pc := 19) (by decide +kernel) ?_
      intro x33 hx33
      refine ev_r_goto (pc := 20) (o := 4) (t := 24) (by decide +kernel) (by decide +kernel) ?_
      exact hK24 x33 hx33 S _ (by rfl) (by rfl) (by rfl) (by rfl)
/-- MendBench.replace(IIII)I -/
def jm_186 (Q : Nat) (a0 : Int) (a1 : Int) (a2 : Int) (a3 : Int) (S : ev_St) : Option ((Int ⊕ String) × ev_St) := ev_bd (jm_200 Q a0 S) fun r2 s1 => ev_bd (jm_201 Q a1 s1) fun r4 s3 => ev_bd (jm_1 Q a2 s3) fun r6 s5 => if (r2 : Nat) = 0 then (some (.inr "java/lang/IndexOutOfBoundsException", ev_tick s5)) else (if (r4 : Nat) = 0 then (some (.inr "java/lang/IndexOutOfBoundsException", ev_tick s5)) else (if (r6 : Nat) = 0 then (some (.inr "java/lang/IndexOutOfBoundsException", ev_tick s5)) else (if a3 < 1 then (some (.inr "java/lang/IllegalArgumentException", ev_tick s5)) else (if a3 ≤ 100 then (ev_b (s5.1 0 16) fun x12 => ev_jn (fun  (s22 : ev_St) => ev_bd (jm_43 Q r6 s22) fun _ s23 => ev_bd (jm_44 Q ((281 + 1)) r2 r4 a3 s23) fun x25 s24 => if x25 ≠ (-1) then (ev_bd (jm_47 Q ((254 + 1)) a2 s24) fun _ s27 => ev_b (s27.1 0 16) fun x28 => if x28 = 0 then (some ((Sum.inl x25 : Int ⊕ String), s27)) else (ev_bd (jm_206 Q a0 a1 a3 s27) fun _ s30 => some ((Sum.inl x25 : Int ⊕ String), s30))) else (some (.inr "java/lang/IllegalStateException", ev_tick s24))) fun K115 => if x12 = 0 then (K115  s5) else (ev_b (s5.1 0 15) fun x32 => if 6 ≤ x32 then (K115  s5) else (ev_b (s5.1 0 15) fun x34 => ev_if ((0 : Int) ≤ x34 ∧ x34 < (ev_aln 311 : Int)) (ev_b (s5.1 311 (Int.toNat x34)) fun x35 => if x35 < 10 then (K115  s5) else (some (.inr "java/lang/IllegalStateException", ev_tick s5)))))) else (some (.inr "java/lang/IllegalArgumentException", ev_tick s5))))))
theorem jt_186 (d : Nat) (hd : 8 ≤ d) (Q : Nat) (a0 : Int) (a1 : Int) (a2 : Int) (a3 : Int) (ha0 : ev_rng a0) (ha1 : ev_rng a1) (ha2 : ev_rng a2) (ha3 : ev_rng a3) (S : ev_St) (x : Int ⊕ String) (S' : ev_St) (hJ : jm_186 Q a0 a1 a2 a3 S = some (x, S')) : ev_Ref d 186 [.ref 0, .int (Int32.ofInt a0), .int (Int32.ofInt a1), .int (Int32.ofInt a2), .int (Int32.ofInt a3)] S (ev_eX x) S' (ev_PX x) := by
  obtain ⟨d, rfl⟩ : ∃ e, d = e + 1 := ⟨d - 1, by omega⟩
  refine ev_ref_of (P := ev_PX) (lv := [(0, .ref 0), (1, .int (Int32.ofInt a0)), (2, .int (Int32.ofInt a1)), (3, .int (Int32.ofInt a2)), (4, .int (Int32.ofInt a3))]) (by decide +kernel) (by (try simp only [ev_sum, ev_nv_cat]); first | done | rfl) (by (try simp only [lv_args, ev_nv_cat]); first | done | rfl) ?_ x S' hJ
  unfold jm_186
  refine ev_r_aload_n (pc := 0) (k := 0) (v := .ref 0) trivial (by decide +kernel) (by rfl) ?_
  refine ev_r_iload_n (pc := 1) (k := 1) (v := Int32.ofInt a0) (by decide +kernel) (by rfl) ?_
  refine ev_r_virt (pc := 2) (y := 156) (mi := 200) (na := 1) (k := 0) (as := [.int (Int32.ofInt a0)]) (rest := []) (encc := ev_oR) (Q := (fun r => r = 0 ∨ ev_isOb (r - 1) 5 = true)) (fun x S1 h => jt_200 d (by omega) Q a0 ha0 S x S1 h) (by exact ev_ob_0) (by decide +kernel) (by decide +kernel) (by decide +kernel) (by decide +kernel) rfl (by (try simp only [ev_sum, ev_nv_cat]); first | done | rfl) ?_
  intro r2 s1 hr2
  show ev_w _ _ _ _ _ [ev_nv r2] _ _ _ _
  refine ev_r_astore (pc := 5) (k := 5) (ev_isR_nv _) (by decide +kernel) (by decide +kernel) rfl ?_
  refine ev_r_aload_n (pc := 7) (k := 0) (v := .ref 0) trivial (by decide +kernel) (by exact (ev_l1 (by rfl) (by decide) (by decide))) ?_
  refine ev_r_iload_n (pc := 8) (k := 2) (v := Int32.ofInt a1) (by decide +kernel) (by exact (ev_l1 (by rfl) (by decide) (by decide))) ?_
  refine ev_r_virt (pc := 9) (y := 263) (mi := 201) (na := 1) (k := 0) (as := [.int (Int32.ofInt a1)]) (rest := []) (encc := ev_oR) (Q := (fun r => r = 0 ∨ ev_isOb (r - 1) 10 = true)) (fun x S1 h => jt_201 d (by omega) Q a1 ha1 s1 x S1 h) (by exact ev_ob_0) (by decide +kernel) (by decide +kernel) (by decide +kernel) (by decide +kernel) rfl (by (try simp only [ev_sum, ev_nv_cat]); first | done | rfl) ?_
  intro r4 s3 hr4
  show ev_w _ _ _ _ _ [ev_nv r4] _ _ _ _
  refine ev_r_astore (pc := 12) (k := 6) (ev_isR_nv _) (by decide +kernel) (by decide +kernel) rfl ?_
  refine ev_r_aload_n (pc := 14) (k := 0) (v := .ref 0) trivial (by decide +kernel) (by exact (ev_l1 (ev_l1 (by rfl) (by decide) (by decide)) (by decide) (by decide))) ?_
  refine ev_r_getC (pc := 15) (y := 48) (ci := 12) (f := 8) (fin := 1) (k' := 254) (by decide +kernel) (by decide +kernel) (by exact ev_ob_0) rfl rfl ?_
  refine ev_r_iload_n (pc := 18) (k := 3) (v := Int32.ofInt a2) (by decide +kernel) (by exact (ev_l1 (ev_l1 (by rfl) (by decide) (by decide)) (by decide) (by decide))) ?_
  refine ev_r_virt (pc := 19) (y := 221) (mi := 1) (na := 1) (k := 254) (as := [.int (Int32.ofInt a2)]) (rest := []) (encc := ev_oR) (Q := (fun r => r = 0 ∨ ev_isOb (r - 1) 10 = true)) (fun x S1 h => jt_1 d (by omega) Q a2 ha2 s3 x S1 h) (by exact ev_ob_254) (by decide +kernel) (by decide +kernel) (by decide +kernel) (by decide +kernel) rfl (by (try simp only [ev_sum, ev_nv_cat]); first | done | rfl) ?_
  intro r6 s5 hr6
  show ev_w _ _ _ _ _ [ev_nv r6] _ _ _ _
  refine ev_r_astore (pc := 22) (k := 7) (ev_isR_nv _) (by decide +kernel) (by decide +kernel) rfl ?_
  refine ev_r_aload (pc := 24) (k := 5) (v := ev_nv r2) (ev_isR_nv _) (by decide +kernel) (by exact (ev_l1 (ev_lk_st1 ev_lk_st1_self (by decide) (ev_nv_cat _)) (by decide) (by decide))) ?_
  refine ev_r_ifnull (pc := 26) (r := r2) (o := 13) (t := 39) (by decide +kernel) (by decide +kernel) ?_ ?_
  · intro c7
    exact ev_r_throw (pc := 39) (x := (Sum.inr "java/lang/IndexOutOfBoundsException" : Int ⊕ String)) (y := 160) (E := "java/lang/IndexOutOfBoundsException") trivial (by decide +kernel) (by decide +kernel) (by decide +kernel) (Nat.ble_eq.mpr (by omega)) rfl
  · intro c7
    refine ev_r_aload (pc := 29) (k := 6) (v := ev_nv r4) (ev_isR_nv _) (by decide +kernel) (by exact (ev_lk_st1 ev_lk_st1_self (by decide) (ev_nv_cat _))) ?_
    refine ev_r_ifnull (pc := 31) (r := r4) (o := 8) (t := 39) (by decide +kernel) (by decide +kernel) ?_ ?_
    · intro c8
      exact ev_r_throw (pc := 39) (x := (Sum.inr "java/lang/IndexOutOfBoundsException" : Int ⊕ String)) (y := 160) (E := "java/lang/IndexOutOfBoundsException") trivial (by decide +kernel) (by decide +kernel) (by decide +kernel) (Nat.ble_eq.mpr (by omega)) rfl
    · intro c8
      refine ev_r_aload (pc := 34) (k := 7) (v := ev_nv r6) (ev_isR_nv _) (by decide +kernel) (by exact ev_lk_st1_self) ?_
      refine ev_r_ifnonnull (pc := 36) (r := r6) (o := 14) (t := 50) (by decide +kernel) (by decide +kernel) ?_ ?_
      · intro c9
        refine ev_r_iload (pc := 50) (k := 4) (v := Int32.ofInt a3) (by decide +kernel) (by exact (ev_l1 (ev_l1 (ev_lk_st1 (by rfl) (by decide) rfl) (by decide) (by decide)) (by decide) (by decide))) ?_
        refine ev_r_iconst (pc := 52) (k := 1) (by decide +kernel) ?_
        refine ev_r_icmp (pc := 53) (q := .lt) (o := 10) (t := 63) (c := a3 < 1) (by decide +kernel) (ev_k_lt ha3 (by decide)) (by decide +kernel) ?_ ?_
        · intro c10
          exact ev_r_throw (pc := 63) (x := (Sum.inr "java/lang/IllegalArgumentException" : Int ⊕ String)) (y := 98) (E := "java/lang/IllegalArgumentException") trivial (by decide +kernel) (by decide +kernel) (by decide +kernel) (Nat.ble_eq.mpr (by omega)) rfl
        · intro c10
          refine ev_r_iload (pc := 56) (k := 4) (v := Int32.ofInt a3) (by decide +kernel) (by exact (ev_l1 (ev_l1 (ev_lk_st1 (by rfl) (by decide) rfl) (by decide) (by decide)) (by decide) (by decide))) ?_
          refine ev_r_bipush (pc := 58) (k := 100) (by decide +kernel) (by decide +kernel) ?_
          refine ev_r_icmp (pc := 60) (q := .le) (o := 14) (t := 74) (c := a3 ≤ 100) (by decide +kernel) (ev_k_le ha3 (by decide)) (by decide +kernel) ?_ ?_
          · intro c11
            refine ev_r_aload_n (pc := 74) (k := 0) (v := .ref 0) trivial (by decide +kernel) (by exact (ev_l1 (ev_l1 (ev_l1 (by rfl) (by decide) (by decide)) (by decide) (by decide)) (by decide) (by decide))) ?_
            refine ev_r_getI (pc := 75) (y := 270) (ci := 12) (f := 16) (fin := 0) (by decide +kernel) (by decide +kernel) (by exact ev_ob_0) rfl ?_
            intro x12 hx12
            refine ev_r_jn (Q := fun K => ∀ (s22 : ev_St) (w13 : List (Nat × Value)), ev_lk w13 0 = some (.ref 0) → ev_lk w13 1 = some (.int (Int32.ofInt a0)) → ev_lk w13 2 = some (.int (Int32.ofInt a1)) → ev_lk w13 3 = some (.int (Int32.ofInt a2)) → ev_lk w13 4 = some (.int (Int32.ofInt a3)) → ev_lk w13 5 = some (ev_nv r2) → ev_lk w13 6 = some (ev_nv r4) → ev_lk w13 7 = some (ev_nv r6) → ev_w none (ev_Mof 186) d 115 w13 [] s22 (K  s22) ev_eX ev_PX) ?_ ?_
            · intro  s22 w13 e14 e15 e16 e17 e18 e19 e20 e21
              refine ev_r_aload_n (pc := 115) (k := 0) (v := .ref 0) trivial (by decide +kernel) (by exact e14) ?_
              refine ev_r_getC (pc := 116) (y := 55) (ci := 12) (f := 9) (fin := 1) (k' := 269) (by decide +kernel) (by decide +kernel) (by exact ev_ob_0) rfl rfl ?_
              refine ev_r_aload (pc := 119) (k := 7) (v := ev_nv r6) (ev_isR_nv _) (by decide +kernel) (by exact e21) ?_
              refine ev_r_virt (pc := 121) (y := 278) (mi := 43) (na := 1) (k := 269) (as := [ev_nv r6]) (rest := []) (encc := ev_oU) (Q := ev_PU) (fun x S1 h => jt_43 d (by omega) Q r6 (by exact hr6) s22 x S1 h) (by exact ev_ob_269) (by decide +kernel) (by decide +kernel) (by decide +kernel) (by decide +kernel) rfl (by (try simp only [ev_sum, ev_nv_cat]); first | done | rfl) ?_
              intro _ s23 _
              show ev_w _ _ _ _ _ [] _ _ _ _
              refine ev_r_aload_n (pc := 124) (k := 0) (v := .ref 0) trivial (by decide +kernel) (by exact e14) ?_
              refine ev_r_getC (pc := 125) (y := 55) (ci := 12) (f := 9) (fin := 1) (k' := 269) (by decide +kernel) (by decide +kernel) (by exact ev_ob_0) rfl rfl ?_
              refine ev_r_aload_n (pc := 128) (k := 0) (v := .ref 0) trivial (by decide +kernel) (by exact e14) ?_
              refine ev_r_getC (pc := 129) (y := 62) (ci := 12) (f := 10) (fin := 1) (k' := 281) (by decide +kernel) (by decide +kernel) (by exact ev_ob_0) rfl rfl ?_
              refine ev_r_aload (pc := 132) (k := 5) (v := ev_nv r2) (ev_isR_nv _) (by decide +kernel) (by exact e19) ?_
              refine ev_r_aload (pc := 134) (k := 6) (v := ev_nv r4) (ev_isR_nv _) (by decide +kernel) (by exact e20) ?_
              refine ev_r_iload (pc := 136) (k := 4) (v := Int32.ofInt a3) (by decide +kernel) (by exact e18) ?_
              refine ev_r_virt (pc := 138) (y := 281) (mi := 44) (na := 4) (k := 269) (as := [ev_nv ((281 + 1)), ev_nv r2, ev_nv r4, .int (Int32.ofInt a3)]) (rest := []) (encc := ev_oI) (Q := ev_rng) (fun x S1 h => jt_44 d (by omega) Q ((281 + 1)) r2 r4 a3 (by exact (Or.inr ev_ob_281)) (by exact hr2) (by exact hr4) ha3 s23 x S1 h) (by exact ev_ob_269) (by decide +kernel) (by decide +kernel) (by decide +kernel) (by decide +kernel) rfl (by (try simp only [ev_sum, ev_nv_cat]); first | done | rfl) ?_
              intro x25 s24 hx25
              show ev_w _ _ _ _ _ [.int (Int32.ofInt x25)] _ _ _ _
              refine ev_r_istore (pc := 141) (k := 8) (by decide +kernel) (by decide +kernel) rfl ?_
              refine ev_r_iload (pc := 143) (k := 8) (v := Int32.ofInt x25) (by decide +kernel) (by exact ev_lk_st1_self) ?_
              refine ev_r_iconst (pc := 145) (k := -1) (by decide +kernel) ?_
              refine ev_r_icmp (pc := 146) (q := .ne) (o := 14) (t := 160) (c := x25 ≠ (-1)) (by decide +kernel) (ev_k_ne hx25 (by decide)) (by decide +kernel) ?_ ?_
              · intro c26
                refine ev_r_aload_n (pc := 160) (k := 0) (v := .ref 0) trivial (by decide +kernel) (by exact (ev_l1 e14 (by decide) (by decide))) ?_
                refine ev_r_getC (pc := 161) (y := 55) (ci := 12) (f := 9) (fin := 1) (k' := 269) (by decide +kernel) (by decide +kernel) (by exact ev_ob_0) rfl rfl ?_
                refine ev_r_aload_n (pc := 164) (k := 0) (v := .ref 0) trivial (by decide +kernel) (by exact (ev_l1 e14 (by decide) (by decide))) ?_
                refine ev_r_getC (pc := 165) (y := 48) (ci := 12) (f := 8) (fin := 1) (k' := 254) (by decide +kernel) (by decide +kernel) (by exact ev_ob_0) rfl rfl ?_
                refine ev_r_iload_n (pc := 168) (k := 3) (v := Int32.ofInt a2) (by decide +kernel) (by exact (ev_l1 e17 (by decide) (by decide))) ?_
                refine ev_r_virt (pc := 169) (y := 287) (mi := 47) (na := 2) (k := 269) (as := [ev_nv ((254 + 1)), .int (Int32.ofInt a2)]) (rest := []) (encc := ev_oU) (Q := ev_PU) (fun x S1 h => jt_47 d (by omega) Q ((254 + 1)) a2 (by exact (Or.inr ev_ob_254)) ha2 s24 x S1 h) (by exact ev_ob_269) (by decide +kernel) (by decide +kernel) (by decide +kernel) (by decide +kernel) rfl (by (try simp only [ev_sum, ev_nv_cat]); first | done | rfl) ?_
                intro _ s27 _
                show ev_w _ _ _ _ _ [] _ _ _ _
                refine ev_r_aload_n (pc := 172) (k := 0) (v := .ref 0) trivial (by decide +kernel) (by exact (ev_l1 e14 (by decide) (by decide))) ?_
                refine ev_r_getI (pc := 173) (y := 270) (ci := 12) (f := 16) (fin := 0) (by decide +kernel) (by decide +kernel) (by exact ev_ob_0) rfl ?_
                intro x28 hx28
                refine ev_r_if (pc := 176) (q := .eq) (o := 11) (t := 187) (c := x28 = 0) (by decide +kernel) (ev_k_eq hx28 ev_rng0) (by decide +kernel) ?_ ?_
                · intro c29
                  refine ev_r_iload (pc := 187) (k := 8) (v := Int32.ofInt x25) (by decide +kernel) (by exact ev_lk_st1_self) ?_
                  exact ev_r_ireturn (pc := 189) (x := (Sum.inl x25 : Int ⊕ String)) (v := Int32.ofInt x25) (ty := .int) hx25 (by decide +kernel) (by decide +kernel) rfl rfl
                · intro c29
                  refine ev_r_aload_n (pc := 179) (k := 0) (v := .ref 0) trivial (by decide +kernel) (by exact (ev_l1 e14 (by decide) (by decide))) ?_
                  refine ev_r_iload_n (pc := 180) (k := 1) (v := Int32.ofInt a0) (by decide +kernel) (by exact (ev_l1 e15 (by decide) (by decide))) ?_
                  refine ev_r_iload_n (pc := 181) (k := 2) (v := Int32.ofInt a1) (by decide +kernel) (by exact (ev_l1 e16 (by decide) (by decide))) ?_
                  refine ev_r_iload (pc := 182) (k := 4) (v := Int32.ofInt a3) (by decide +kernel) (by exact (ev_l1 e18 (by decide) (by decide))) ?_
                  refine ev_r_virt (pc := 184) (y := 291) (mi := 206) (na := 3) (k := 0) (as := [.int (Int32.ofInt a0), .int (Int32.ofInt a1), .int (Int32.ofInt a3)]) (rest := []) (encc := ev_oU) (Q := ev_PU) (fun x S1 h => jt_206 d (by omega) Q a0 a1 a3 ha0 ha1 ha3 s27 x S1 h) (by exact ev_ob_0) (by decide +kernel) (by decide +kernel) (by decide +kernel) (by decide +kernel) rfl (by (try simp only [ev_sum, ev_nv_cat]); first | done | rfl) ?_
                  intro _ s30 _
                  show ev_w _ _ _ _ _ [] _ _ _ _
                  refine ev_r_iload (pc := 187) (k := 8) (v := Int32.ofInt x25) (by decide +kernel) (by exact ev_lk_st1_self) ?_
                  exact ev_r_ireturn (pc := 189) (x := (Sum.inl x25 : Int ⊕ String)) (v := Int32.ofInt x25) (ty := .int) hx25 (by decide +kernel) (by decide +kernel) rfl rfl
              · intro c26
                exact ev_r_throw (pc := 149) (x := (Sum.inr "java/lang/IllegalStateException" : Int ⊕ String)) (y := 109) (E := "java/lang/IllegalStateException") trivial (by decide +kernel) (by decide +kernel) (by decide +kernel) (Nat.ble_eq.mpr (by omega)) rfl
            · intro K115 hK115
              refine ev_r_if (pc := 78) (q := .eq) (o := 37) (t := 115) (c := x12 = 0) (by decide +kernel) (ev_k_eq hx12 ev_rng0) (by decide +kernel) ?_ ?_
              · intro c31
                exact hK115  s5 _ (by exact (ev_l1 (ev_l1 (ev_l1 (by rfl) (by decide) (by decide)) (by decide) (by decide)) (by decide) (by decide))) (by exact (ev_l1 (ev_l1 (ev_l1 (by rfl) (by decide) (by decide)) (by decide) (by decide)) (by decide) (by decide))) (by exact (ev_l1 (ev_l1 (ev_l1 (by rfl) (by decide) (by decide)) (by decide) (by decide)) (by decide) (by decide))) (by exact (ev_l1 (ev_l1 (ev_l1 (by rfl) (by decide) (by decide)) (by decide) (by decide)) (by decide) (by decide))) (by exact (ev_l1 (ev_l1 (ev_lk_st1 (by rfl) (by decide) rfl) (by decide) (by decide)) (by decide) (by decide))) (by exact (ev_l1 (ev_lk_st1 ev_lk_st1_self (by decide) (ev_nv_cat _)) (by decide) (by decide))) (by exact (ev_lk_st1 ev_lk_st1_self (by decide) (ev_nv_cat _))) (by exact ev_lk_st1_self)
              · intro c31
                refine ev_r_aload_n (pc := 81) (k := 0) (v := .ref 0) trivial (by decide +kernel) (by exact (ev_l1 (ev_l1 (ev_l1 (by rfl) (by decide) (by decide)) (by decide) (by decide)) (by decide) (by decide))) ?_
                refine ev_r_getI (pc := 82) (y := 273) (ci := 12) (f := 15) (fin := 0) (by decide +kernel) (by decide +kernel) (by exact ev_ob_0) rfl ?_
                intro x32 hx32
                refine ev_r_bipush (pc := 85) (k := 6) (by decide +kernel) (by decide +kernel) ?_
                refine ev_r_icmp (pc := 87) (q := .ge) (o := 28) (t := 115) (c := 6 ≤ x32) (by decide +kernel) (ev_k_ge hx32 (by decide)) (by decide +kernel) ?_ ?_
                · intro c33
                  exact hK115  s5 _ (by exact (ev_l1 (ev_l1 (ev_l1 (by rfl) (by decide) (by decide)) (by decide) (by decide)) (by decide) (by decide))) (by exact (ev_l1 (ev_l1 (ev_l1 (by rfl) (by decide) (by decide)) (by decide) (by decide)) (by decide) (by decide))) (by exact (ev_l1 (ev_l1 (ev_l1 (by rfl) (by decide) (by decide)) (by decide) (by decide)) (by decide) (by decide))) (by exact (ev_l1 (ev_l1 (ev_l1 (by rfl) (by decide) (by decide)) (by decide) (by decide)) (by decide) (by decide))) (by exact (ev_l1 (ev_l1 (ev_lk_st1 (by rfl) (by decide) rfl) (by decide) (by decide)) (by decide) (by decide))) (by exact (ev_l1 (ev_lk_st1 ev_lk_st1_self (by decide) (ev_nv_cat _)) (by decide) (by decide))) (by exact (ev_lk_st1 ev_lk_st1_self (by decide) (ev_nv_cat _))) (by exact ev_lk_st1_self)
                · intro c33
                  refine ev_r_aload_n (pc := 90) (k := 0) (v := .ref 0) trivial (by decide +kernel) (by exact (ev_l1 (ev_l1 (ev_l1 (by rfl) (by decide) (by decide)) (by decide) (by decide)) (by decide) (by decide))) ?_
                  refine ev_r_getC (pc := 91) (y := 83) (ci := 12) (f := 14) (fin := 1) (k' := 311) (by decide +kernel) (by decide +kernel) (by exact ev_ob_0) rfl rfl ?_
                  refine ev_r_aload_n (pc := 94) (k := 0) (v := .ref 0) trivial (by decide +kernel) (by exact (ev_l1 (ev_l1 (ev_l1 (by rfl) (by decide) (by decide)) (by decide) (by decide)) (by decide) (by decide))) ?_
                  refine ev_r_getI (pc := 95) (y := 273) (ci := 12) (f := 15) (fin := 0) (by decide +kernel) (by decide +kernel) (by exact ev_ob_0) rfl ?_
                  intro x34 hx34
                  refine ev_r_iald (pc := 98) hx34 (by decide +kernel) (by exact ev_ab_311) ?_
                  intro x35 hx35
                  refine ev_r_bipush (pc := 99) (k := 10) (by decide +kernel) (by decide +kernel) ?_
                  refine ev_r_icmp (pc := 101) (q := .lt) (o := 14) (t := 115) (c := x35 < 10) (by decide +kernel) (ev_k_lt hx35 (by decide)) (by decide +kernel) ?_ ?_
                  · intro c36
                    exact hK115  s5 _ (by exact (ev_l1 (ev_l1 (ev_l1 (by rfl) (by decide) (by decide)) (by decide) (by decide)) (by decide) (by decide))) (by exact (ev_l1 (ev_l1 (ev_l1 (by rfl) (by decide) (by decide)) (by decide) (by decide)) (by decide) (by decide))) (by exact (ev_l1 (ev_l1 (ev_l1 (by rfl) (by decide) (by decide)) (by decide) (by decide)) (by decide) (by decide))) (by exact (ev_l1 (ev_l1 (ev_l1 (by rfl) (by decide) (by decide)) (by decide) (by decide)) (by decide) (by decide))) (by exact (ev_l1 (ev_l1 (ev_lk_st1 (by rfl) (by decide) rfl) (by decide) (by decide)) (by decide) (by decide))) (by exact (ev_l1 (ev_lk_st1 ev_lk_st1_self (by decide) (ev_nv_cat _)) (by decide) (by decide))) (by exact (ev_lk_st1 ev_lk_st1_self (by decide) (ev_nv_cat _))) (by exact ev_lk_st1_self)
                  · intro c36
                    exact ev_r_throw (pc := 104) (x := (Sum.inr "java/lang/IllegalStateException" : Int ⊕ String)) (y := 109) (E := "java/lang/IllegalStateException") trivial (by decide +kernel) (by decide +kernel) (by decide +kernel) (Nat.ble_eq.mpr (by omega)) rfl
          · intro c11
            exact ev_r_throw (pc := 63) (x := (Sum.inr "java/lang/IllegalArgumentException" : Int ⊕ String)) (y := 98) (E := "java/lang/IllegalArgumentException") trivial (by decide +kernel) (by decide +kernel) (by decide +kernel) (Nat.ble_eq.mpr (by omega)) rfl
      · intro c9
        exact ev_r_throw (pc := 39) (x := (Sum.inr "java/lang/IndexOutOfBoundsException" : Int ⊕ String)) (y := 160) (E := "java/lang/IndexOutOfBoundsException") trivial (by decide +kernel) (by decide +kernel) (by decide +kernel) (Nat.ble_eq.mpr (by omega)) rfl
/-- MendBench.mark(IIZ)I -/
def jm_187 (Q : Nat) (a0 : Int) (a1 : Int) (a2 : Int) (S : ev_St) : Option ((Int ⊕ String) × ev_St) := ev_bd (jm_1 Q a0 S) fun r2 s1 => if (r2 : Nat) = 0 then (some (.inr "java/lang/IndexOutOfBoundsException", ev_tick s1)) else (if a1 < 0 then (some (.inr "java/lang/IndexOutOfBoundsException", ev_tick s1)) else (ev_b (s1.1 ((r2 - 1)) 1) fun x5 => if a1 ≤ x5 then (ev_bd (jm_2 Q a0 a1 a2 s1) fun x8 s7 => if x8 ≠ (-1) then (some ((Sum.inl x8 : Int ⊕ String), s7)) else (some (.inr "java/lang/IllegalStateException", ev_tick s7))) else (some (.inr "java/lang/IndexOutOfBoundsException", ev_tick s1))))
theorem jt_187 (d : Nat) (hd : 6 ≤ d) (Q : Nat) (a0 : Int) (a1 : Int) (a2 : Int) (ha0 : ev_rng a0) (ha1 : ev_rng a1) (ha2 : ev_rng a2) (S : ev_St) (x : Int ⊕ String) (S' : ev_St) (hJ : jm_187 Q a0 a1 a2 S = some (x, S')) : ev_Ref d 187 [.ref 0, .int (Int32.ofInt a0), .int (Int32.ofInt a1), .int (Int32.ofInt a2)] S (ev_eX x) S' (ev_PX x) := by
  obtain ⟨d, rfl⟩ : ∃ e, d = e + 1 := ⟨d - 1, by omega⟩
  refine ev_ref_of (P := ev_PX) (lv := [(0, .ref 0), (1, .int (Int32.ofInt a0)), (2, .int (Int32.ofInt a1)), (3, .int (Int32.ofInt a2))]) (by decide +kernel) (by (try simp only [ev_sum, ev_nv_cat]); first | done | rfl) (by (try simp only [lv_args, ev_nv_cat]); first | done | rfl) ?_ x S' hJ
  unfold jm_187
  refine ev_r_aload_n (pc := 0) (k := 0) (v := .ref 0) trivial (by decide +kernel) (by rfl) ?_
  refine ev_r_getC (pc := 1) (y := 48) (ci := 12) (f := 8) (fin := 1) (k' := 254) (by decide +kernel) (by decide +kernel) (by exact ev_ob_0) rfl rfl ?_
  refine ev_r_iload_n (pc := 4) (k := 1) (v := Int32.ofInt a0) (by decide +kernel) (by rfl) ?_
  refine ev_r_virt (pc := 5) (y := 221) (mi := 1) (na := 1) (k := 254) (as := [.int (Int32.ofInt a0)]) (rest := []) (encc := ev_oR) (Q := (fun r => r = 0 ∨ ev_isOb (r - 1) 10 = true)) (fun x S1 h => jt_1 d (by omega) Q a0 ha0 S x S1 h) (by exact ev_ob_254) (by decide +kernel) (by decide +kernel) (by decide +kernel) (by decide +kernel) rfl (by (try simp only [ev_sum, ev_nv_cat]); first | done | rfl) ?_
  intro r2 s1 hr2
  show ev_w _ _ _ _ _ [ev_nv r2] _ _ _ _
  refine ev_r_astore (pc := 8) (k := 4) (ev_isR_nv _) (by decide +kernel) (by decide +kernel) rfl ?_
  refine ev_r_aload (pc := 10) (k := 4) (v := ev_nv r2) (ev_isR_nv _) (by decide +kernel) (by exact ev_lk_st1_self) ?_
  refine ev_r_ifnull (pc := 12) (r := r2) (o := 16) (t := 28) (by decide +kernel) (by decide +kernel) ?_ ?_
  · intro c3
    exact ev_r_throw (pc := 28) (x := (Sum.inr "java/lang/IndexOutOfBoundsException" : Int ⊕ String)) (y := 160) (E := "java/lang/IndexOutOfBoundsException") trivial (by decide +kernel) (by decide +kernel) (by decide +kernel) (Nat.ble_eq.mpr (by omega)) rfl
  · intro c3
    refine ev_r_iload_n (pc := 15) (k := 2) (v := Int32.ofInt a1) (by decide +kernel) (by exact (ev_l1 (by rfl) (by decide) (by decide))) ?_
    refine ev_r_if (pc := 16) (q := .lt) (o := 12) (t := 28) (c := a1 < 0) (by decide +kernel) (ev_k_lt ha1 ev_rng0) (by decide +kernel) ?_ ?_
    · intro c4
      exact ev_r_throw (pc := 28) (x := (Sum.inr "java/lang/IndexOutOfBoundsException" : Int ⊕ String)) (y := 160) (E := "java/lang/IndexOutOfBoundsException") trivial (by decide +kernel) (by decide +kernel) (by decide +kernel) (Nat.ble_eq.mpr (by omega)) rfl
    · intro c4
      refine ev_r_iload_n (pc := 19) (k := 2) (v := Int32.ofInt a1) (by decide +kernel) (by exact (ev_l1 (by rfl) (by decide) (by decide))) ?_
      refine ev_r_aload (pc := 20) (k := 4) (v := ev_nv r2) (ev_isR_nv _) (by decide +kernel) (by exact ev_lk_st1_self) ?_
      refine ev_r_dr (r := r2) (fun v => [v, .int (Int32.ofInt a1)]) c3 ?_
      refine ev_r_getI (pc := 22) (y := 105) (ci := 10) (f := 1) (fin := 0) (by decide +kernel) (by decide +kernel) (by exact (hr2.resolve_left c3)) rfl ?_
      intro x5 hx5
      refine ev_r_icmp (pc := 25) (q := .le) (o := 14) (t := 39) (c := a1 ≤ x5) (by decide +kernel) (ev_k_le ha1 hx5) (by decide +kernel) ?_ ?_
      · intro c6
        refine ev_r_aload_n (pc := 39) (k := 0) (v := .ref 0) trivial (by decide +kernel) (by exact (ev_l1 (by rfl) (by decide) (by decide))) ?_
        refine ev_r_getC (pc := 40) (y := 48) (ci := 12) (f := 8) (fin := 1) (k' := 254) (by decide +kernel) (by decide +kernel) (by exact ev_ob_0) rfl rfl ?_
        refine ev_r_iload_n (pc := 43) (k := 1) (v := Int32.ofInt a0) (by decide +kernel) (by exact (ev_l1 (by rfl) (by decide) (by decide))) ?_
        refine ev_r_iload_n (pc := 44) (k := 2) (v := Int32.ofInt a1) (by decide +kernel) (by exact (ev_l1 (by rfl) (by decide) (by decide))) ?_
        refine ev_r_iload_n (pc := 45) (k := 3) (v := Int32.ofInt a2) (by decide +kernel) (by exact (ev_lk_st1 (by rfl) (by decide) rfl)) ?_
        refine ev_r_virt (pc := 46) (y := 297) (mi := 2) (na := 3) (k := 254) (as := [.int (Int32.ofInt a0), .int (Int32.ofInt a1), .int (Int32.ofInt a2)]) (rest := []) (encc := ev_oI) (Q := ev_rng) (fun x S1 h => jt_2 d (by omega) Q a0 a1 a2 ha0 ha1 ha2 s1 x S1 h) (by exact ev_ob_254) (by decide +kernel) (by decide +kernel) (by decide +kernel) (by decide +kernel) rfl (by (try simp only [ev_sum, ev_nv_cat]); first | done | rfl) ?_
        intro x8 s7 hx8
        show ev_w _ _ _ _ _ [.int (Int32.ofInt x8)] _ _ _ _
        refine ev_r_istore (pc := 49) (k := 5) (by decide +kernel) (by decide +kernel) rfl ?_
        refine ev_r_iload (pc := 51) (k := 5) (v := Int32.ofInt x8) (by decide +kernel) (by exact ev_lk_st1_self) ?_
        refine ev_r_iconst (pc := 53) (k := -1) (by decide +kernel) ?_
        refine ev_r_icmp (pc := 54) (q := .ne) (o := 14) (t := 68) (c := x8 ≠ (-1)) (by decide +kernel) (ev_k_ne hx8 (by decide)) (by decide +kernel) ?_ ?_
        · intro c9
          refine ev_r_iload (pc := 68) (k := 5) (v := Int32.ofInt x8) (by decide +kernel) (by exact ev_lk_st1_self) ?_
          exact ev_r_ireturn (pc := 70) (x := (Sum.inl x8 : Int ⊕ String)) (v := Int32.ofInt x8) (ty := .int) hx8 (by decide +kernel) (by decide +kernel) rfl rfl
        · intro c9
          exact ev_r_throw (pc := 57) (x := (Sum.inr "java/lang/IllegalStateException" : Int ⊕ String)) (y := 109) (E := "java/lang/IllegalStateException") trivial (by decide +kernel) (by decide +kernel) (by decide +kernel) (Nat.ble_eq.mpr (by omega)) rfl
      · intro c6
        exact ev_r_throw (pc := 28) (x := (Sum.inr "java/lang/IndexOutOfBoundsException" : Int ⊕ String)) (y := 160) (E := "java/lang/IndexOutOfBoundsException") trivial (by decide +kernel) (by decide +kernel) (by decide +kernel) (Nat.ble_eq.mpr (by omega)) rfl
/-- MendBench.place(I)I -/
def jm_188 (Q : Nat) (a0 : Int) (S : ev_St) : Option ((Int ⊕ String) × ev_St) := if a0 < 0 then (some (.inr "java/lang/IndexOutOfBoundsException", ev_tick S)) else (ev_b (S.1 254 4) fun x2 => if x2 ≤ a0 then (some (.inr "java/lang/IndexOutOfBoundsException", ev_tick S)) else (if a0 < 12 then (ev_if ((0 : Int) ≤ a0 ∧ a0 < (ev_aln 258 : Int)) (ev_b (S.1 258 (Int.toNat a0)) fun x5 => some ((Sum.inl x5 : Int ⊕ String), S))) else (some (.inr "java/lang/IndexOutOfBoundsException", ev_tick S))))
theorem jt_188 (d : Nat) (hd : 6 ≤ d) (Q : Nat) (a0 : Int) (ha0 : ev_rng a0) (S : ev_St) (x : Int ⊕ String) (S' : ev_St) (hJ : jm_188 Q a0 S = some (x, S')) : ev_Ref d 188 [.ref 0, .int (Int32.ofInt a0)] S (ev_eX x) S' (ev_PX x) := by
  obtain ⟨d, rfl⟩ : ∃ e, d = e + 1 := ⟨d - 1, by omega⟩
  refine ev_ref_of (P := ev_PX) (lv := [(0, .ref 0), (1, .int (Int32.ofInt a0))]) (by decide +kernel) (by (try simp only [ev_sum, ev_nv_cat]); first | done | rfl) (by (try simp only [lv_args, ev_nv_cat]); first | done | rfl) ?_ x S' hJ
  unfold jm_188
  refine ev_r_iload_n (pc := 0) (k := 1) (v := Int32.ofInt a0) (by decide +kernel) (by rfl) ?_
  refine ev_r_if (pc := 1) (q := .lt) (o := 20) (t := 21) (c := a0 < 0) (by decide +kernel) (ev_k_lt ha0 ev_rng0) (by decide +kernel) ?_ ?_
  · intro c1
    exact ev_r_throw (pc := 21) (x := (Sum.inr "java/lang/IndexOutOfBoundsException" : Int ⊕ String)) (y := 160) (E := "java/lang/IndexOutOfBoundsException") trivial (by decide +kernel) (by decide +kernel) (by decide +kernel) (Nat.ble_eq.mpr (by omega)) rfl
  · intro c1
    refine ev_r_iload_n (pc := 4) (k := 1) (v := Int32.ofInt a0) (by decide +kernel) (by rfl) ?_
    refine ev_r_aload_n (pc := 5) (k := 0) (v := .ref 0) trivial (by decide +kernel) (by rfl) ?_
    refine ev_r_getC (pc := 6) (y := 48) (ci := 12) (f := 8) (fin := 1) (k' := 254) (by decide +kernel) (by decide +kernel) (by exact ev_ob_0) rfl rfl ?_
    refine ev_r_getI (pc := 9) (y := 303) (ci := 0) (f := 4) (fin := 0) (by decide +kernel) (by decide +kernel) (by exact ev_ob_254) rfl ?_
    intro x2 hx2
    refine ev_r_icmp (pc := 12) (q := .ge) (o := 9) (t := 21) (c := x2 ≤ a0) (by decide +kernel) (ev_k_ge ha0 hx2) (by decide +kernel) ?_ ?_
    · intro c3
      exact ev_r_throw (pc := 21) (x := (Sum.inr "java/lang/IndexOutOfBoundsException" : Int ⊕ String)) (y := 160) (E := "java/lang/IndexOutOfBoundsException") trivial (by decide +kernel) (by decide +kernel) (by decide +kernel) (Nat.ble_eq.mpr (by omega)) rfl
    · intro c3
      refine ev_r_iload_n (pc := 15) (k := 1) (v := Int32.ofInt a0) (by decide +kernel) (by rfl) ?_
      refine ev_r_bipush (pc := 16) (k := 12) (by decide +kernel) (by decide +kernel) ?_
      refine ev_r_icmp (pc := 18) (q := .lt) (o := 14) (t := 32) (c := a0 < 12) (by decide +kernel) (ev_k_lt ha0 (by decide)) (by decide +kernel) ?_ ?_
      · intro c4
        refine ev_r_aload_n (pc := 32) (k := 0) (v := .ref 0) trivial (by decide +kernel) (by rfl) ?_
        refine ev_r_getC (pc := 33) (y := 48) (ci := 12) (f := 8) (fin := 1) (k' := 254) (by decide +kernel) (by decide +kernel) (by exact ev_ob_0) rfl rfl ?_
        refine ev_r_getC (pc := 36) (y := 308) (ci := 0) (f := 3) (fin := 2) (k' := 258) (by decide +kernel) (by decide +kernel) (by exact ev_ob_254) rfl rfl ?_
        refine ev_r_iload_n (pc := 39) (k := 1) (v := Int32.ofInt a0) (by decide +kernel) (by rfl) ?_
        refine ev_r_iald (pc := 40) ha0 (by decide +kernel) (by exact ev_ab_258) ?_
        intro x5 hx5
        exact ev_r_ireturn (pc := 41) (x := (Sum.inl x5 : Int ⊕ String)) (v := Int32.ofInt x5) (ty := .int) hx5 (by decide +kernel) (by decide +kernel) rfl rfl
      · intro c4
        exact ev_r_throw (pc := 21) (x := (Sum.inr "java/lang/IndexOutOfBoundsException" : Int ⊕ String)) (y := 160) (E := "java/lang/IndexOutOfBoundsException") trivial (by decide +kernel) (by decide +kernel) (by decide +kernel) (Nat.ble_eq.mpr (by omega)) rfl
/-- MendBench.open()I -/
def jm_189 (Q : Nat)  (S : ev_St) : Option ((Int ⊕ String) × ev_St) := ev_b (S.1 254 14) fun x1 => if x1 = 0 then (ev_b (ev_pI S 254 14 1) fun s3 => ev_b (s3.1 254 12) fun x4 => some ((Sum.inl x4 : Int ⊕ String), s3)) else (some (.inr "java/lang/IllegalStateException", ev_tick S))
theorem jt_189 (d : Nat) (hd : 6 ≤ d) (Q : Nat)   (S : ev_St) (x : Int ⊕ String) (S' : ev_St) (hJ : jm_189 Q  S = some (x, S')) : ev_Ref d 189 [.ref 0] S (ev_eX x) S' (ev_PX x) := by
  obtain ⟨d, rfl⟩ : ∃ e, d = e + 1 := ⟨d - 1, by omega⟩
  refine ev_ref_of (P := ev_PX) (lv := [(0, .ref 0)]) (by decide +kernel) (by (try simp only [ev_sum, ev_nv_cat]); first | done | rfl) (by (try simp only [lv_args, ev_nv_cat]); first | done | rfl) ?_ x S' hJ
  unfold jm_189
  refine ev_r_aload_n (pc := 0) (k := 0) (v := .ref 0) trivial (by decide +kernel) (by rfl) ?_
  refine ev_r_getC (pc := 1) (y := 48) (ci := 12) (f := 8) (fin := 1) (k' := 254) (by decide +kernel) (by decide +kernel) (by exact ev_ob_0) rfl rfl ?_
  refine ev_r_getI (pc := 4) (y := 311) (ci := 0) (f := 14) (fin := 0) (by decide +kernel) (by decide +kernel) (by exact ev_ob_254) rfl ?_
  intro x1 hx1
  refine ev_r_if (pc := 7) (q := .eq) (o := 14) (t := 21) (c := x1 = 0) (by decide +kernel) (ev_k_eq hx1 ev_rng0) (by decide +kernel) ?_ ?_
  · intro c2
    refine ev_r_aload_n (pc := 21) (k := 0) (v := .ref 0) trivial (by decide +kernel) (by rfl) ?_
    refine ev_r_getC (pc := 22) (y := 48) (ci := 12) (f := 8) (fin := 1) (k' := 254) (by decide +kernel) (by decide +kernel) (by exact ev_ob_0) rfl rfl ?_
    refine ev_r_iconst (pc := 25) (k := 1) (by decide +kernel) ?_
    refine ev_r_putI (pc := 26) (y := 311) (ci := 0) (f := 14) (by decide) (by decide +kernel) (by decide +kernel) (by exact ev_ob_254) rfl (ev_fit_bl (by decide : ev_bl 1)) ?_
    intro s3
    refine ev_r_aload_n (pc := 29) (k := 0) (v := .ref 0) trivial (by decide +kernel) (by rfl) ?_
    refine ev_r_getC (pc := 30) (y := 48) (ci := 12) (f := 8) (fin := 1) (k' := 254) (by decide +kernel) (by decide +kernel) (by exact ev_ob_0) rfl rfl ?_
    refine ev_r_getI (pc := 33) (y := 316) (ci := 0) (f := 12) (fin := 0) (by decide +kernel) (by decide +kernel) (by exact ev_ob_254) rfl ?_
    intro x4 hx4
    exact ev_r_ireturn (pc := 36) (x := (Sum.inl x4 : Int ⊕ String)) (v := Int32.ofInt x4) (ty := .int) hx4 (by decide +kernel) (by decide +kernel) rfl rfl
  · intro c2
    exact ev_r_throw (pc := 10) (x := (Sum.inr "java/lang/IllegalStateException" : Int ⊕ String)) (y := 109) (E := "java/lang/IllegalStateException") trivial (by decide +kernel) (by decide +kernel) (by decide +kernel) (Nat.ble_eq.mpr (by omega)) rfl
/-- MendBench.shut()I -/
def jm_190 (Q : Nat)  (S : ev_St) : Option ((Int ⊕ String) × ev_St) := ev_b (S.1 254 14) fun x1 => if x1 ≠ 0 then (ev_b (ev_pI S 254 14 0) fun s3 => ev_bd (jm_3 Q  s3) fun _ s4 => ev_b (s4.1 254 12) fun x5 => some ((Sum.inl x5 : Int ⊕ String), s4)) else (some (.inr "java/lang/IllegalStateException", ev_tick S))
theorem jt_190 (d : Nat) (hd : 6 ≤ d) (Q : Nat)   (S : ev_St) (x : Int ⊕ String) (S' : ev_St) (hJ : jm_190 Q  S = some (x, S')) : ev_Ref d 190 [.ref 0] S (ev_eX x) S' (ev_PX x) := by
  obtain ⟨d, rfl⟩ : ∃ e, d = e + 1 := ⟨d - 1, by omega⟩
  refine ev_ref_of (P := ev_PX) (lv := [(0, .ref 0)]) (by decide +kernel) (by (try simp only [ev_sum, ev_nv_cat]); first | done | rfl) (by (try simp only [lv_args, ev_nv_cat]); first | done | rfl) ?_ x S' hJ
  unfold jm_190
  refine ev_r_aload_n (pc := 0) (k := 0) (v := .ref 0) trivial (by decide +kernel) (by rfl) ?_
  refine ev_r_getC (pc := 1) (y := 48) (ci := 12) (f := 8) (fin := 1) (k' := 254) (by decide +kernel) (by decide +kernel) (by exact ev_ob_0) rfl rfl ?_
  refine ev_r_getI (pc := 4) (y := 311) (ci := 0) (f := 14) (fin := 0) (by decide +kernel) (by decide +kernel) (by exact ev_ob_254) rfl ?_
  intro x1 hx1
  refine ev_r_if (pc := 7) (q := .ne) (o := 14) (t := 21) (c := x1 ≠ 0) (by decide +kernel) (ev_k_ne hx1 ev_rng0) (by decide +kernel) ?_ ?_
  · intro c2
    refine ev_r_aload_n (pc := 21) (k := 0) (v := .ref 0) trivial (by decide +kernel) (by rfl) ?_
    refine ev_r_getC (pc := 22) (y := 48) (ci := 12) (f := 8) (fin := 1) (k' := 254) (by decide +kernel) (by decide +kernel) (by exact ev_ob_0) rfl rfl ?_
    refine ev_r_iconst (pc := 25) (k := 0) (by decide +kernel) ?_
    refine ev_r_putI (pc := 26) (y := 311) (ci := 0) (f := 14) (by decide) (by decide +kernel) (by decide +kernel) (by exact ev_ob_254) rfl (ev_fit_bl (by decide : ev_bl 0)) ?_
    intro s3
    refine ev_r_aload_n (pc := 29) (k := 0) (v := .ref 0) trivial (by decide +kernel) (by rfl) ?_
    refine ev_r_getC (pc := 30) (y := 48) (ci := 12) (f := 8) (fin := 1) (k' := 254) (by decide +kernel) (by decide +kernel) (by exact ev_ob_0) rfl rfl ?_
    refine ev_r_virt (pc := 33) (y := 258) (mi := 3) (na := 0) (k := 254) (as := []) (rest := []) (encc := ev_oU) (Q := ev_PU) (fun x S1 h => jt_3 d (by omega) Q   s3 x S1 h) (by exact ev_ob_254) (by decide +kernel) (by decide +kernel) (by decide +kernel) (by decide +kernel) rfl (by (try simp only [ev_sum, ev_nv_cat]); first | done | rfl) ?_
    intro _ s4 _
    show ev_w _ _ _ _ _ [] _ _ _ _
    refine ev_r_aload_n (pc := 36) (k := 0) (v := .ref 0) trivial (by decide +kernel) (by rfl) ?_
    refine ev_r_getC (pc := 37) (y := 48) (ci := 12) (f := 8) (fin := 1) (k' := 254) (by decide +kernel) (by decide +kernel) (by exact ev_ob_0) rfl rfl ?_
    refine ev_r_getI (pc := 40) (y := 316) (ci := 0) (f := 12) (fin := 0) (by decide +kernel) (by decide +kernel) (by exact ev_ob_254) rfl ?_
    intro x5 hx5
    exact ev_r_ireturn (pc := 43) (x := (Sum.inl x5 : Int ⊕ String)) (v := Int32.ofInt x5) (ty := .int) hx5 (by decide +kernel) (by decide +kernel) rfl rfl
  · intro c2
    exact ev_r_throw (pc := 10) (x := (Sum.inr "java/lang/IllegalStateException" : Int ⊕ String)) (y := 109) (E := "java/lang/IllegalStateException") trivial (by decide +kernel) (by decide +kernel) (by decide +kernel) (Nat.ble_eq.mpr (by omega)) rfl
/-- MendBench.undo()I -/
def jm_191 (Q : Nat)  (S : ev_St) : Option ((Int ⊕ String) × ev_St) := ev_b (S.1 254 14) fun x1 => if x1 ≠ 0 then (some (.inr "java/lang/IllegalStateException", ev_tick S)) else (ev_b (S.1 254 12) fun x3 => if x3 ≠ 0 then (ev_bd (jm_5 Q  S) fun x6 s5 => some ((Sum.inl x6 : Int ⊕ String), s5)) else (some (.inr "java/lang/IllegalStateException", ev_tick S)))
theorem jt_191 (d : Nat) (hd : 6 ≤ d) (Q : Nat)   (S : ev_St) (x : Int ⊕ String) (S' : ev_St) (hJ : jm_191 Q  S = some (x, S')) : ev_Ref d 191 [.ref 0] S (ev_eX x) S' (ev_PX x) := by
  obtain ⟨d, rfl⟩ : ∃ e, d = e + 1 := ⟨d - 1, by omega⟩
  refine ev_ref_of (P := ev_PX) (lv := [(0, .ref 0)]) (by decide +kernel) (by (try simp only [ev_sum, ev_nv_cat]); first | done | rfl) (by (try simp only [lv_args, ev_nv_cat]); first | done | rfl) ?_ x S' hJ
  unfold jm_191
  refine ev_r_aload_n (pc := 0) (k := 0) (v := .ref 0) trivial (by decide +kernel) (by rfl) ?_
  refine ev_r_getC (pc := 1) (y := 48) (ci := 12) (f := 8) (fin := 1) (k' := 254) (by decide +kernel) (by decide +kernel) (by exact ev_ob_0) rfl rfl ?_
  refine ev_r_getI (pc := 4) (y := 311) (ci := 0) (f := 14) (fin := 0) (by decide +kernel) (by decide +kernel) (by exact ev_ob_254) rfl ?_
  intro x1 hx1
  refine ev_r_if (pc := 7) (q := .ne) (o := 13) (t := 20) (c := x1 ≠ 0) (by decide +kernel) (ev_k_ne hx1 ev_rng0) (by decide +kernel) ?_ ?_
  · intro c2
    exact ev_r_throw (pc := 20) (x := (Sum.inr "java/lang/IllegalStateException" : Int ⊕ String)) (y := 109) (E := "java/lang/IllegalStateException") trivial (by decide +kernel) (by decide +kernel) (by decide +kernel) (Nat.ble_eq.mpr (by omega)) rfl
  · intro c2
    refine ev_r_aload_n (pc := 10) (k := 0) (v := .ref 0) trivial (by decide +kernel) (by rfl) ?_
    refine ev_r_getC (pc := 11) (y := 48) (ci := 12) (f := 8) (fin := 1) (k' := 254) (by decide +kernel) (by decide +kernel) (by exact ev_ob_0) rfl rfl ?_
    refine ev_r_getI (pc := 14) (y := 316) (ci := 0) (f := 12) (fin := 0) (by decide +kernel) (by decide +kernel) (by exact ev_ob_254) rfl ?_
    intro x3 hx3
    refine ev_r_if (pc := 17) (q := .ne) (o := 14) (t := 31) (c := x3 ≠ 0) (by decide +kernel) (ev_k_ne hx3 ev_rng0) (by decide +kernel) ?_ ?_
    · intro c4
      refine ev_r_aload_n (pc := 31) (k := 0) (v := .ref 0) trivial (by decide +kernel) (by rfl) ?_
      refine ev_r_getC (pc := 32) (y := 48) (ci := 12) (f := 8) (fin := 1) (k' := 254) (by decide +kernel) (by decide +kernel) (by exact ev_ob_0) rfl rfl ?_
      refine ev_r_virt (pc := 35) (y := 323) (mi := 5) (na := 0) (k := 254) (as := []) (rest := []) (encc := ev_oI) (Q := ev_rng) (fun x S1 h => jt_5 d (by omega) Q   S x S1 h) (by exact ev_ob_254) (by decide +kernel) (by decide +kernel) (by decide +kernel) (by decide +kernel) rfl (by (try simp only [ev_sum, ev_nv_cat]); first | done | rfl) ?_
      intro x6 s5 hx6
      show ev_w _ _ _ _ _ [.int (Int32.ofInt x6)] _ _ _ _
      exact ev_r_ireturn (pc := 38) (x := (Sum.inl x6 : Int ⊕ String)) (v := Int32.ofInt x6) (ty := .int) hx6 (by decide +kernel) (by decide +kernel) rfl rfl
    · intro c4
      exact ev_r_throw (pc := 20) (x := (Sum.inr "java/lang/IllegalStateException" : Int ⊕ String)) (y := 109) (E := "java/lang/IllegalStateException") trivial (by decide +kernel) (by decide +kernel) (by decide +kernel) (Nat.ble_eq.mpr (by omega)) rfl
/-- MendBench.redo()I -/
def jm_192 (Q : Nat)  (S : ev_St) : Option ((Int ⊕ String) × ev_St) := ev_b (S.1 254 14) fun x1 => if x1 ≠ 0 then (some (.inr "java/lang/IllegalStateException", ev_tick S)) else (ev_b (S.1 254 12) fun x3 => ev_b (S.1 254 13) fun x4 => if x3 < x4 then (ev_bd (jm_6 Q  S) fun x7 s6 => some ((Sum.inl x7 : Int ⊕ String), s6)) else (some (.inr "java/lang/IllegalStateException", ev_tick S)))
theorem jt_192 (d : Nat) (hd : 6 ≤ d) (Q : Nat)   (S : ev_St) (x : Int ⊕ String) (S' : ev_St) (hJ : jm_192 Q  S = some (x, S')) : ev_Ref d 192 [.ref 0] S (ev_eX x) S' (ev_PX x) := by
  obtain ⟨d, rfl⟩ : ∃ e, d = e + 1 := ⟨d - 1, by omega⟩
  refine ev_ref_of (P := ev_PX) (lv := [(0, .ref 0)]) (by decide +kernel) (by (try simp only [ev_sum, ev_nv_cat]); first | done | rfl) (by (try simp only [lv_args, ev_nv_cat]); first | done | rfl) ?_ x S' hJ
  unfold jm_192
  refine ev_r_aload_n (pc := 0) (k := 0) (v := .ref 0) trivial (by decide +kernel) (by rfl) ?_
  refine ev_r_getC (pc := 1) (y := 48) (ci := 12) (f := 8) (fin := 1) (k' := 254) (by decide +kernel) (by decide +kernel) (by exact ev_ob_0) rfl rfl ?_
  refine ev_r_getI (pc := 4) (y := 311) (ci := 0) (f := 14) (fin := 0) (by decide +kernel) (by decide +kernel) (by exact ev_ob_254) rfl ?_
  intro x1 hx1
  refine ev_r_if (pc := 7) (q := .ne) (o := 20) (t := 27) (c := x1 ≠ 0) (by decide +kernel) (ev_k_ne hx1 ev_rng0) (by decide +kernel) ?_ ?_
  · intro c2
    exact ev_r_throw (pc := 27) (x := (Sum.inr "java/lang/IllegalStateException" : Int ⊕ String)) (y := 109) (E := "java/lang/IllegalStateException") trivial (by decide +kernel) (by decide +kernel) (by decide +kernel) (Nat.ble_eq.mpr (by omega)) rfl
  · intro c2
    refine ev_r_aload_n (pc := 10) (k := 0) (v := .ref 0) trivial (by decide +kernel) (by rfl) ?_
    refine ev_r_getC (pc := 11) (y := 48) (ci := 12) (f := 8) (fin := 1) (k' := 254) (by decide +kernel) (by decide +kernel) (by exact ev_ob_0) rfl rfl ?_
    refine ev_r_getI (pc := 14) (y := 316) (ci := 0) (f := 12) (fin := 0) (by decide +kernel) (by decide +kernel) (by exact ev_ob_254) rfl ?_
    intro x3 hx3
    refine ev_r_aload_n (pc := 17) (k := 0) (v := .ref 0) trivial (by decide +kernel) (by rfl) ?_
    refine ev_r_getC (pc := 18) (y := 48) (ci := 12) (f := 8) (fin := 1) (k' := 254) (by decide +kernel) (by decide +kernel) (by exact ev_ob_0) rfl rfl ?_
    refine ev_r_getI (pc := 21) (y := 326) (ci := 0) (f := 13) (fin := 0) (by decide +kernel) (by decide +kernel) (by exact ev_ob_254) rfl ?_
    intro x4 hx4
    refine ev_r_icmp (pc := 24) (q := .lt) (o := 14) (t := 38) (c := x3 < x4) (by decide +kernel) (ev_k_lt hx3 hx4) (by decide +kernel) ?_ ?_
    · intro c5
      refine ev_r_aload_n (pc := 38) (k := 0) (v := .ref 0) trivial (by decide +kernel) (by rfl) ?_
      refine ev_r_getC (pc := 39) (y := 48) (ci := 12) (f := 8) (fin := 1) (k' := 254) (by decide +kernel) (by decide +kernel) (by exact ev_ob_0) rfl rfl ?_
      refine ev_r_virt (pc := 42) (y := 329) (mi := 6) (na := 0) (k := 254) (as := []) (rest := []) (encc := ev_oI) (Q := ev_rng) (fun x S1 h => jt_6 d (by omega) Q   S x S1 h) (by exact ev_ob_254) (by decide +kernel) (by decide +kernel) (by decide +kernel) (by decide +kernel) rfl (by (try simp only [ev_sum, ev_nv_cat]); first | done | rfl) ?_
      intro x7 s6 hx7
      show ev_w _ _ _ _ _ [.int (Int32.ofInt x7)] _ _ _ _
      exact ev_r_ireturn (pc := 45) (x := (Sum.inl x7 : Int ⊕ String)) (v := Int32.ofInt x7) (ty := .int) hx7 (by decide +kernel) (by decide +kernel) rfl rfl
    · intro c5
      exact ev_r_throw (pc := 27) (x := (Sum.inr "java/lang/IllegalStateException" : Int ⊕ String)) (y := 109) (E := "java/lang/IllegalStateException") trivial (by decide +kernel) (by decide +kernel) (by decide +kernel) (Nat.ble_eq.mpr (by omega)) rfl
/-- MendBench.record()I -/
def jm_193 (Q : Nat)  (S : ev_St) : Option ((Int ⊕ String) × ev_St) := ev_b (S.1 0 15) fun x1 => if x1 < 6 then (ev_b (S.1 0 16) fun x3 => ev_jn (fun (x4 : Int) (s7 : ev_St) => ev_if (ev_bl x4) (ev_b (ev_pI s7 0 16 x4) fun s8 => ev_b (s8.1 0 16) fun x10 => if x10 = 0 then (ev_b (s8.1 0 15) fun x12 => ev_ck (x12 + 1) fun x13 => ev_b (ev_pI s8 0 15 x13) fun s14 => ev_b (s14.1 0 15) fun x15 => ev_ck (x15 - 1) fun x16 => some ((Sum.inl x16 : Int ⊕ String), s14)) else (some ((Sum.inl ((-1)) : Int ⊕ String), s8)))) fun K33 => if x3 ≠ 0 then (K33 0 S) else (K33 1 S)) else (some (.inr "java/lang/IllegalStateException", ev_tick S))
theorem jt_193 (d : Nat) (hd : 6 ≤ d) (Q : Nat)   (S : ev_St) (x : Int ⊕ String) (S' : ev_St) (hJ : jm_193 Q  S = some (x, S')) : ev_Ref d 193 [.ref 0] S (ev_eX x) S' (ev_PX x) := by
  obtain ⟨d, rfl⟩ : ∃ e, d = e + 1 := ⟨d - 1, by omega⟩
  refine ev_ref_of (P := ev_PX) (lv := [(0, .ref 0)]) (by decide +kernel) (by (try simp only [ev_sum, ev_nv_cat]); first | done | rfl) (by (try simp only [lv_args, ev_nv_cat]); first | done | rfl) ?_ x S' hJ
  unfold jm_193
  refine ev_r_aload_n (pc := 0) (k := 0) (v := .ref 0) trivial (by decide +kernel) (by rfl) ?_
  refine ev_r_getI (pc := 1) (y := 273) (ci := 12) (f := 15) (fin := 0) (by decide +kernel) (by decide +kernel) (by exact ev_ob_0) rfl ?_
  intro x1 hx1
  refine ev_r_bipush (pc := 4) (k := 6) (by decide +kernel) (by decide +kernel) ?_
  refine ev_r_icmp (pc := 6) (q := .lt) (o := 14) (t := 20) (c := x1 < 6) (by decide +kernel) (ev_k_lt hx1 (by decide)) (by decide +kernel) ?_ ?_
  · intro c2
    refine ev_r_aload_n (pc := 20) (k := 0) (v := .ref 0) trivial (by decide +kernel) (by rfl) ?_
    refine ev_r_aload_n (pc := 21) (k := 0) (v := .ref 0) trivial (by decide +kernel) (by rfl) ?_
    refine ev_r_getI (pc := 22) (y := 270) (ci := 12) (f := 16) (fin := 0) (by decide +kernel) (by decide +kernel) (by exact ev_ob_0) rfl ?_
    intro x3 hx3
    refine ev_r_jn (Q := fun K => ∀ (x4 : Int) (hx4 : ev_rng x4), ∀ (s7 : ev_St) (w5 : List (Nat × Value)), ev_lk w5 0 = some (.ref 0) → ev_w none (ev_Mof 193) d 33 w5 [.int (Int32.ofInt x4), .ref 0] s7 (K x4 s7) ev_eX ev_PX) ?_ ?_
    · intro x4 hx4 s7 w5 e6
      refine ev_r_chk ?_
      intro c9
      refine ev_r_putI (pc := 33) (y := 270) (ci := 12) (f := 16) hx4 (by decide +kernel) (by decide +kernel) (by exact ev_ob_0) rfl (ev_fit_bl c9) ?_
      intro s8
      refine ev_r_aload_n (pc := 36) (k := 0) (v := .ref 0) trivial (by decide +kernel) (by exact e6) ?_
      refine ev_r_getI (pc := 37) (y := 270) (ci := 12) (f := 16) (fin := 0) (by decide +kernel) (by decide +kernel) (by exact ev_ob_0) rfl ?_
      intro x10 hx10
      refine ev_r_if (pc := 40) (q := .eq) (o := 5) (t := 45) (c := x10 = 0) (by decide +kernel) (ev_k_eq hx10 ev_rng0) (by decide +kernel) ?_ ?_
      · intro c11
        refine ev_r_aload_n (pc := 45) (k := 0) (v := .ref 0) trivial (by decide +kernel) (by exact e6) ?_
        refine ev_r_dup (pc := 46) rfl (by decide +kernel) ?_
        refine ev_r_getI (pc := 47) (y := 273) (ci := 12) (f := 15) (fin := 0) (by decide +kernel) (by decide +kernel) (by exact ev_ob_0) rfl ?_
        intro x12 hx12
        refine ev_r_iconst (pc := 50) (k := 1) (by decide +kernel) ?_
        refine ev_r_iadd (pc := 51) (by decide +kernel) ?_
        intro x13 hx13
        refine ev_r_putI (pc := 52) (y := 273) (ci := 12) (f := 15) hx13 (by decide +kernel) (by decide +kernel) (by exact ev_ob_0) rfl rfl ?_
        intro s14
        refine ev_r_aload_n (pc := 55) (k := 0) (v := .ref 0) trivial (by decide +kernel) (by exact e6) ?_
        refine ev_r_getI (pc := 56) (y := 273) (ci := 12) (f := 15) (fin := 0) (by decide +kernel) (by decide +kernel) (by exact ev_ob_0) rfl ?_
        intro x15 hx15
        refine ev_r_iconst (pc := 59) (k := 1) (by decide +kernel) ?_
        refine ev_r_isub (pc := 60) (by decide +kernel) ?_
        intro x16 hx16
        exact ev_r_ireturn (pc := 61) (x := (Sum.inl x16 : Int ⊕ String)) (v := Int32.ofInt x16) (ty := .int) hx16 (by decide +kernel) (by decide +kernel) rfl rfl
      · intro c11
        refine ev_r_iconst (pc := 43) (k := -1) (by decide +kernel) ?_
        exact ev_r_ireturn (pc := 44) (x := (Sum.inl ((-1)) : Int ⊕ String)) (v := Int32.ofInt ((-1))) (ty := .int) (show ev_rng ((-1)) by decide) (by decide +kernel) (by decide +kernel) rfl rfl
    · intro K33 hK33
      refine ev_r_if (pc := 25) (q := .ne) (o := 7) (t := 32) (c := x3 ≠ 0) (by decide +kernel) (ev_k_ne hx3 ev_rng0) (by decide +kernel) ?_ ?_
      · intro c17
        refine ev_r_iconst (pc := 32) (k := 0) (by decide +kernel) ?_
        exact hK33 0 (by decide) S _ (by rfl)
      · intro c17
        refine ev_r_iconst (pc := 28) (k := 1) (by decide +kernel) ?_
        refine ev_r_goto (pc := 29) (o := 4) (t := 33) (by decide +kernel) (by decide +kernel) ?_
        exact hK33 1 (by decide) S _ (by rfl)
  · intro c2
    exact ev_r_throw (pc := 9) (x := (Sum.inr "java/lang/IllegalStateException" : Int ⊕ String)) (y := 109) (E := "java/lang/IllegalStateException") trivial (by decide +kernel) (by decide +kernel) (by decide +kernel) (Nat.ble_eq.mpr (by omega)) rfl
def jb_194_64 (Q : Nat) (a0 : Int) (a1 : Int)  (K64 : Nat → Int → Int → ev_St → Option ((Int ⊕ String) × ev_St)) (r11 : Nat) (x12 : Int) (x13 : Int) (s21 : ev_St) : Option ((Int ⊕ String) × ev_St) := ev_if ((0 : Int) ≤ a0 ∧ a0 < (ev_aln 311 : Int)) (ev_b (s21.1 311 (Int.toNat a0)) fun x22 => ev_jn (fun  (s27 : ev_St) => ev_bd (jm_47 Q ((254 + 1)) a1 s27) fun _ s28 => some ((Sum.inl x12 : Int ⊕ String), s28)) fun K197 => if x22 ≤ x13 then (K197  s21) else (ev_ck (3 * x13) fun x30 => ev_ck (x30 + 2) fun x31 => ev_b (ev_aln r11 : Int) fun x32 => if x32 ≤ x31 then (K197  s21) else (ev_ck (3 * x13) fun x34 => ev_if ((0 : Int) ≤ x34 ∧ x34 < (ev_aln r11 : Int)) (ev_b (s21.1 r11 (Int.toNat x34)) fun x35 => ev_bd (jm_200 Q x35 s21) fun r37 s36 => ev_ck (3 * x13) fun x38 => ev_ck (x38 + 1) fun x39 => ev_if ((0 : Int) ≤ x39 ∧ x39 < (ev_aln r11 : Int)) (ev_b (s36.1 r11 (Int.toNat x39)) fun x40 => ev_bd (jm_201 Q x40 s36) fun r42 s41 => ev_jn (fun (r43 : Nat) (r44 : Nat) (x45 : Int) (s55 : ev_St) => ev_jn (fun (x56 : Int) (s64 : ev_St) => if x56 ≠ (-1) then (ev_ck (x12 + x56) fun x66 => ev_ck (x13 + 1) fun x67 => K64 r11 x66 x67 s64) else (some (.inr "java/lang/IllegalStateException", ev_tick s64))) fun K165 => if x45 = 0 then (K165 ((-1)) s55) else (ev_ck (3 * x13) fun x69 => ev_ck (x69 + 2) fun x70 => ev_if ((0 : Int) ≤ x70 ∧ x70 < (ev_aln r11 : Int)) (ev_b (s55.1 r11 (Int.toNat x70)) fun x71 => ev_bd (jm_44 Q ((281 + 1)) r43 r44 x71 s55) fun x73 s72 => K165 x73 s72))) fun K130 => ev_jn (fun (r74 : Nat) (r75 : Nat) (s85 : ev_St) => K130 r74 r75 0 s85) fun K129 => if (r37 : Nat) = 0 then (K129 r37 r42 s41) else (if (r42 : Nat) = 0 then (K129 r37 r42 s41) else (K130 r37 r42 1 s41)))))))
def jl_194_64 (Q : Nat) (a0 : Int) (a1 : Int)  : Nat → Nat → Int → Int → ev_St → Option ((Int ⊕ String) × ev_St)
  | 0 => fun _ _ _ _ => none
  | q + 1 => jb_194_64 Q a0 a1  (jl_194_64 Q a0 a1  q)
theorem jbt_194_64 (d : Nat) (hd : 8 ≤ d + 1) (Q : Nat) (a0 : Int) (a1 : Int) (ha0 : ev_rng a0) (ha1 : ev_rng a1)   (K64 : Nat → Int → Int → ev_St → Option ((Int ⊕ String) × ev_St)) (hK64 : ∀ (r11 : Nat) (hr11 : ev_isAb r11 1 .int = true), ∀ (x12 : Int) (hx12 : ev_rng x12), ∀ (x13 : Int) (hx13 : ev_rng x13), ∀ (s21 : ev_St) (w14 : List (Nat × Value)), ev_lk w14 0 = some (.ref 0) → ev_lk w14 1 = some (.int (Int32.ofInt a0)) → ev_lk w14 2 = some (.int (Int32.ofInt a1)) → ev_lk w14 4 = some (.ref r11) → ev_lk w14 5 = some (.int (Int32.ofInt x12)) → ev_lk w14 6 = some (.int (Int32.ofInt x13)) → ev_w none (ev_Mof 194) d 64 w14 [] s21 (K64 r11 x12 x13 s21) ev_eX ev_PX) : ∀ (r11 : Nat) (hr11 : ev_isAb r11 1 .int = true), ∀ (x12 : Int) (hx12 : ev_rng x12), ∀ (x13 : Int) (hx13 : ev_rng x13), ∀ (s21 : ev_St) (w14 : List (Nat × Value)), ev_lk w14 0 = some (.ref 0) → ev_lk w14 1 = some (.int (Int32.ofInt a0)) → ev_lk w14 2 = some (.int (Int32.ofInt a1)) → ev_lk w14 4 = some (.ref r11) → ev_lk w14 5 = some (.int (Int32.ofInt x12)) → ev_lk w14 6 = some (.int (Int32.ofInt x13)) → ev_w none (ev_Mof 194) d 64 w14 [] s21 (jb_194_64 Q a0 a1  K64 r11 x12 x13 s21) ev_eX ev_PX := by
  intro r11 hr11 x12 hx12 x13 hx13 s21 w14 e15 e16 e17 e18 e19 e20
  unfold jb_194_64
  refine ev_r_iload (pc := 64) (k := 6) (v := Int32.ofInt x13) (by decide +kernel) (by exact e20) ?_
  refine ev_r_aload_n (pc := 66) (k := 0) (v := .ref 0) trivial (by decide +kernel) (by exact e15) ?_
  refine ev_r_getC (pc := 67) (y := 83) (ci := 12) (f := 14) (fin := 1) (k' := 311) (by decide +kernel) (by decide +kernel) (by exact ev_ob_0) rfl rfl ?_
  refine ev_r_iload_n (pc := 70) (k := 1) (v := Int32.ofInt a0) (by decide +kernel) (by exact e16) ?_
  refine ev_r_iald (pc := 71) ha0 (by decide +kernel) (by exact ev_ab_311) ?_
  intro x22 hx22
  refine ev_r_jn (Q := fun K => ∀ (s27 : ev_St) (w23 : List (Nat × Value)), ev_lk w23 0 = some (.ref 0) → ev_lk w23 2 = some (.int (Int32.ofInt a1)) → ev_lk w23 5 = some (.int (Int32.ofInt x12)) → ev_w none (ev_Mof 194) d 197 w23 [] s27 (K  s27) ev_eX ev_PX) ?_ ?_
  · intro  s27 w23 e24 e25 e26
    refine ev_r_aload_n (pc := 197) (k := 0) (v := .ref 0) trivial (by decide +kernel) (by exact e24) ?_
    refine ev_r_getC (pc := 198) (y := 55) (ci := 12) (f := 9) (fin := 1) (k' := 269) (by decide +kernel) (by decide +kernel) (by exact ev_ob_0) rfl rfl ?_
    refine ev_r_aload_n (pc := 201) (k := 0) (v := .ref 0) trivial (by decide +kernel) (by exact e24) ?_
    refine ev_r_getC (pc := 202) (y := 48) (ci := 12) (f := 8) (fin := 1) (k' := 254) (by decide +kernel) (by decide +kernel) (by exact ev_ob_0) rfl rfl ?_
    refine ev_r_iload_n (pc := 205) (k := 2) (v := Int32.ofInt a1) (by decide +kernel) (by exact e25) ?_
    refine ev_r_virt (pc := 206) (y := 287) (mi := 47) (na := 2) (k := 269) (as := [ev_nv ((254 + 1)), .int (Int32.ofInt a1)]) (rest := []) (encc := ev_oU) (Q := ev_PU) (fun x S1 h => jt_47 d (by omega) Q ((254 + 1)) a1 (by exact (Or.inr ev_ob_254)) ha1 s27 x S1 h) (by exact ev_ob_269) (by decide +kernel) (by decide +kernel) (by decide +kernel) (by decide +kernel) rfl (by (try simp only [ev_sum, ev_nv_cat]); first | done | rfl) ?_
    intro _ s28 _
    show ev_w _ _ _ _ _ [] _ _ _ _
    refine ev_r_iload (pc := 209) (k := 5) (v := Int32.ofInt x12) (by decide +kernel) (by exact e26) ?_
    exact ev_r_ireturn (pc := 211) (x := (Sum.inl x12 : Int ⊕ String)) (v := Int32.ofInt x12) (ty := .int) hx12 (by decide +kernel) (by decide +kernel) rfl rfl
  · intro K197 hK197
    refine ev_r_icmp (pc := 72) (q := .ge) (o := 125) (t := 197) (c := x22 ≤ x13) (by decide +kernel) (ev_k_ge hx13 hx22) (by decide +kernel) ?_ ?_
    · intro c29
      exact hK197  s21 _ (by exact e15) (by exact e17) (by exact e19)
    · intro c29
      refine ev_r_iconst (pc := 75) (k := 3) (by decide +kernel) ?_
      refine ev_r_iload (pc := 76) (k := 6) (v := Int32.ofInt x13) (by decide +kernel) (by exact e20) ?_
      refine ev_r_imul (pc := 78) (by decide +kernel) ?_
      intro x30 hx30
      refine ev_r_iconst (pc := 79) (k := 2) (by decide +kernel) ?_
      refine ev_r_iadd (pc := 80) (by decide +kernel) ?_
      intro x31 hx31
      refine ev_r_aload (pc := 81) (k := 4) (v := .ref r11) trivial (by decide +kernel) (by exact e18) ?_
      refine ev_r_alen (pc := 83) (kd := 1) (ty := .int) (Or.inl rfl) (by decide +kernel) (by exact hr11) ?_
      intro x32 hx32
      refine ev_r_icmp (pc := 84) (q := .ge) (o := 113) (t := 197) (c := x32 ≤ x31) (by decide +kernel) (ev_k_ge hx31 hx32) (by decide +kernel) ?_ ?_
      · intro c33
        exact hK197  s21 _ (by exact e15) (by exact e17) (by exact e19)
      · intro c33
        refine ev_r_aload_n (pc := 87) (k := 0) (v := .ref 0) trivial (by decide +kernel) (by exact e15) ?_
        refine ev_r_aload (pc := 88) (k := 4) (v := .ref r11) trivial (by decide +kernel) (by exact e18) ?_
        refine ev_r_iconst (pc := 90) (k := 3) (by decide +kernel) ?_
        refine ev_r_iload (pc := 91) (k := 6) (v := Int32.ofInt x13) (by decide +kernel) (by exact e20) ?_
        refine ev_r_imul (pc := 93) (by decide +kernel) ?_
        intro x34 hx34
        refine ev_r_iald (pc := 94) hx34 (by decide +kernel) (by exact hr11) ?_
        intro x35 hx35
        refine ev_r_virt (pc := 95) (y := 156) (mi := 200) (na := 1) (k := 0) (as := [.int (Int32.ofInt x35)]) (rest := []) (encc := ev_oR) (Q := (fun r => r = 0 ∨ ev_isOb (r - 1) 5 = true)) (fun x S1 h => jt_200 d (by omega) Q x35 hx35 s21 x S1 h) (by exact ev_ob_0) (by decide +kernel) (by decide +kernel) (by decide +kernel) (by decide +kernel) rfl (by (try simp only [ev_sum, ev_nv_cat]); first | done | rfl) ?_
        intro r37 s36 hr37
        show ev_w _ _ _ _ _ [ev_nv r37] _ _ _ _
        refine ev_r_astore (pc := 98) (k := 7) (ev_isR_nv _) (by decide +kernel) (by decide +kernel) rfl ?_
        refine ev_r_aload_n (pc := 100) (k := 0) (v := .ref 0) trivial (by decide +kernel) (by exact (ev_l1 e15 (by decide) (by decide))) ?_
        refine ev_r_aload (pc := 101) (k := 4) (v := .ref r11) trivial (by decide +kernel) (by exact (ev_l1 e18 (by decide) (by decide))) ?_
        refine ev_r_iconst (pc := 103) (k := 3) (by decide +kernel) ?_
        refine ev_r_iload (pc := 104) (k := 6) (v := Int32.ofInt x13) (by decide +kernel) (by exact (ev_lk_st1 e20 (by decide) rfl)) ?_
        refine ev_r_imul (pc := 106) (by decide +kernel) ?_
        intro x38 hx38
        refine ev_r_iconst (pc := 107) (k := 1) (by decide +kernel) ?_
        refine ev_r_iadd (pc := 108) (by decide +kernel) ?_
        intro x39 hx39
        refine ev_r_iald (pc := 109) hx39 (by decide +kernel) (by exact hr11) ?_
        intro x40 hx40
        refine ev_r_virt (pc := 110) (y := 263) (mi := 201) (na := 1) (k := 0) (as := [.int (Int32.ofInt x40)]) (rest := []) (encc := ev_oR) (Q := (fun r => r = 0 ∨ ev_isOb (r - 1) 10 = true)) (fun x S1 h => jt_201 d (by omega) Q x40 hx40 s36 x S1 h) (by exact ev_ob_0) (by decide +kernel) (by decide +kernel) (by decide +kernel) (by decide +kernel) rfl (by (try simp only [ev_sum, ev_nv_cat]); first | done | rfl) ?_
        intro r42 s41 hr42
        show ev_w _ _ _ _ _ [ev_nv r42] _ _ _ _
        refine ev_r_astore (pc := 113) (k := 8) (ev_isR_nv _) (by decide +kernel) (by decide +kernel) rfl ?_
        refine ev_r_aload (pc := 115) (k := 7) (v := ev_nv r37) (ev_isR_nv _) (by decide +kernel) (by exact (ev_lk_st1 ev_lk_st1_self (by decide) (ev_nv_cat _))) ?_
        refine ev_r_jn (Q := fun K => ∀ (r43 : Nat) (hr43 : r43 = 0 ∨ ev_isOb (r43 - 1) 5 = true), ∀ (r44 : Nat) (hr44 : r44 = 0 ∨ ev_isOb (r44 - 1) 10 = true), ∀ (x45 : Int) (hx45 : ev_rng x45), ∀ (s55 : ev_St) (w46 : List (Nat × Value)), ev_lk w46 0 = some (.ref 0) → ev_lk w46 1 = some (.int (Int32.ofInt a0)) → ev_lk w46 2 = some (.int (Int32.ofInt a1)) → ev_lk w46 4 = some (.ref r11) → ev_lk w46 5 = some (.int (Int32.ofInt x12)) → ev_lk w46 6 = some (.int (Int32.ofInt x13)) → ev_lk w46 7 = some (ev_nv r43) → ev_lk w46 8 = some (ev_nv r44) → ev_w none (ev_Mof 194) d 130 w46 [.int (Int32.ofInt x45)] s55 (K r43 r44 x45 s55) ev_eX ev_PX) ?_ ?_
        · intro r43 hr43 r44 hr44 x45 hx45 s55 w46 e47 e48 e49 e50 e51 e52 e53 e54
          refine ev_r_istore (pc := 130) (k := 9) (by decide +kernel) (by decide +kernel) rfl ?_
          refine ev_r_iload (pc := 132) (k := 9) (v := Int32.ofInt x45) (by decide +kernel) (by exact ev_lk_st1_self) ?_
          refine ev_r_jn (Q := fun K => ∀ (x56 : Int) (hx56 : ev_rng x56), ∀ (s64 : ev_St) (w57 : List (Nat × Value)), ev_lk w57 0 = some (.ref 0) → ev_lk w57 1 = some (.int (Int32.ofInt a0)) → ev_lk w57 2 = some (.int (Int32.ofInt a1)) → ev_lk w57 4 = some (.ref r11) → ev_lk w57 5 = some (.int (Int32.ofInt x12)) → ev_lk w57 6 = some (.int (Int32.ofInt x13)) → ev_w none (ev_Mof 194) d 165 w57 [.int (Int32.ofInt x56)] s64 (K x56 s64) ev_eX ev_PX) ?_ ?_
          · intro x56 hx56 s64 w57 e58 e59 e60 e61 e62 e63
            refine ev_r_istore (pc := 165) (k := 10) (by decide +kernel) (by decide +kernel) rfl ?_
            refine ev_r_iload (pc := 167) (k := 10) (v := Int32.ofInt x56) (by decide +kernel) (by exact ev_lk_st1_self) ?_
            refine ev_r_iconst (pc := 169) (k := -1) (by decide +kernel) ?_
            refine ev_r_icmp (pc := 170) (q := .ne) (o := 14) (t := 184) (c := x56 ≠ (-1)) (by decide +kernel) (ev_k_ne hx56 (by decide)) (by decide +kernel) ?_ ?_
            · intro c65
              refine ev_r_iload (pc := 184) (k := 5) (v := Int32.ofInt x12) (by decide +kernel) (by exact (ev_l1 e62 (by decide) (by decide))) ?_
              refine ev_r_iload (pc := 186) (k := 10) (v := Int32.ofInt x56) (by decide +kernel) (by exact ev_lk_st1_self) ?_
              refine ev_r_iadd (pc := 188) (by decide +kernel) ?_
              intro x66 hx66
              refine ev_r_istore (pc := 189) (k := 5) (by decide +kernel) (by decide +kernel) rfl ?_
              refine ev_r_iinc (pc := 191) (k := 6) (c := 1) (x := x13) (by decide +kernel) (by decide +kernel) (by exact (ev_l1 (ev_l1 e63 (by decide) (by decide)) (by decide) (by decide))) (fun _ => rfl) ?_
              intro x67 hx67
              refine ev_r_goto (pc := 194) (o := (-130)) (t := 64) (by decide +kernel) (by decide +kernel) ?_
              exact hK64 r11 hr11 x66 hx66 x67 hx67 s64 _ (by exact (ev_l1 (ev_l1 (ev_l1 e58 (by decide) (by decide)) (by decide) (by decide)) (by decide) (by decide))) (by exact (ev_l1 (ev_l1 (ev_l1 e59 (by decide) (by decide)) (by decide) (by decide)) (by decide) (by decide))) (by exact (ev_l1 (ev_l1 (ev_l1 e60 (by decide) (by decide)) (by decide) (by decide)) (by decide) (by decide))) (by exact (ev_l1 (ev_lk_st1 (ev_l1 e61 (by decide) (by decide)) (by decide) rfl) (by decide) (by decide))) (by exact (ev_lk_st1 ev_lk_st1_self (by decide) rfl)) (by exact ev_lk_st1_self)
            · intro c65
              exact ev_r_throw (pc := 173) (x := (Sum.inr "java/lang/IllegalStateException" : Int ⊕ String)) (y := 109) (E := "java/lang/IllegalStateException") trivial (by decide +kernel) (by decide +kernel) (by decide +kernel) (Nat.ble_eq.mpr (by omega)) rfl
          · intro K165 hK165
            refine ev_r_if (pc := 134) (q := .eq) (o := 30) (t := 164) (c := x45 = 0) (by decide +kernel) (ev_k_eq hx45 ev_rng0) (by decide +kernel) ?_ ?_
            · intro c68
              refine ev_r_iconst (pc := 164) (k := -1) (by decide +kernel) ?_
              exact hK165 ((-1)) (by decide) s55 _ (by exact (ev_l1 e47 (by decide) (by decide))) (by exact (ev_l1 e48 (by decide) (by decide))) (by exact (ev_l1 e49 (by decide) (by decide))) (by exact (ev_l1 e50 (by decide) (by decide))) (by exact (ev_l1 e51 (by decide) (by decide))) (by exact (ev_l1 e52 (by decide) (by decide)))
            · intro c68
              refine ev_r_aload_n (pc := 137) (k := 0) (v := .ref 0) trivial (by decide +kernel) (by exact (ev_l1 e47 (by decide) (by decide))) ?_
              refine ev_r_getC (pc := 138) (y := 55) (ci := 12) (f := 9) (fin := 1) (k' := 269) (by decide +kernel) (by decide +kernel) (by exact ev_ob_0) rfl rfl ?_
              refine ev_r_aload_n (pc := 141) (k := 0) (v := .ref 0) trivial (by decide +kernel) (by exact (ev_l1 e47 (by decide) (by decide))) ?_
              refine ev_r_getC (pc := 142) (y := 62) (ci := 12) (f := 10) (fin := 1) (k' := 281) (by decide +kernel) (by decide +kernel) (by exact ev_ob_0) rfl rfl ?_
              refine ev_r_aload (pc := 145) (k := 7) (v := ev_nv r43) (ev_isR_nv _) (by decide +kernel) (by exact (ev_l1 e53 (by decide) (by decide))) ?_
              refine ev_r_aload (pc := 147) (k := 8) (v := ev_nv r44) (ev_isR_nv _) (by decide +kernel) (by exact (ev_lk_st1 e54 (by decide) (ev_nv_cat _))) ?_
              refine ev_r_aload (pc := 149) (k := 4) (v := .ref r11) trivial (by decide +kernel) (by exact (ev_l1 e50 (by decide) (by decide))) ?_
              refine ev_r_iconst (pc := 151) (k := 3) (by decide +kernel) ?_
              refine ev_r_iload (pc := 152) (k := 6) (v := Int32.ofInt x13) (by decide +kernel) (by exact (ev_l1 e52 (by decide) (by decide))) ?_
              refine ev_r_imul (pc := 154) (by decide +kernel) ?_
              intro x69 hx69
              refine ev_r_iconst (pc := 155) (k := 2) (by decide +kernel) ?_
              refine ev_r_iadd (pc := 156) (by decide +kernel) ?_
              intro x70 hx70
              refine ev_r_iald (pc := 157) hx70 (by decide +kernel) (by exact hr11) ?_
              intro x71 hx71
              refine ev_r_virt (pc := 158) (y := 281) (mi := 44) (na := 4) (k := 269) (as := [ev_nv ((281 + 1)), ev_nv r43, ev_nv r44, .int (Int32.ofInt x71)]) (rest := []) (encc := ev_oI) (Q := ev_rng) (fun x S1 h => jt_44 d (by omega) Q ((281 + 1)) r43 r44 x71 (by exact (Or.inr ev_ob_281)) (by exact hr43) (by exact hr44) hx71 s55 x S1 h) (by exact ev_ob_269) (by decide +kernel) (by decide +kernel) (by decide +kernel) (by decide +kernel) rfl (by (try simp only [ev_sum, ev_nv_cat]); first | done | rfl) ?_
              intro x73 s72 hx73
              show ev_w _ _ _ _ _ [.int (Int32.ofInt x73)] _ _ _ _
              refine ev_r_goto (pc := 161) (o := 4) (t := 165) (by decide +kernel) (by decide +kernel) ?_
              exact hK165 x73 hx73 s72 _ (by exact (ev_l1 e47 (by decide) (by decide))) (by exact (ev_l1 e48 (by decide) (by decide))) (by exact (ev_l1 e49 (by decide) (by decide))) (by exact (ev_l1 e50 (by decide) (by decide))) (by exact (ev_l1 e51 (by decide) (by decide))) (by exact (ev_l1 e52 (by decide) (by decide)))
        · intro K130 hK130
          refine ev_r_jn (Q := fun K => ∀ (r74 : Nat) (hr74 : r74 = 0 ∨ ev_isOb (r74 - 1) 5 = true), ∀ (r75 : Nat) (hr75 : r75 = 0 ∨ ev_isOb (r75 - 1) 10 = true), ∀ (s85 : ev_St) (w76 : List (Nat × Value)), ev_lk w76 0 = some (.ref 0) → ev_lk w76 1 = some (.int (Int32.ofInt a0)) → ev_lk w76 2 = some (.int (Int32.ofInt a1)) → ev_lk w76 4 = some (.ref r11) → ev_lk w76 5 = some (.int (Int32.ofInt x12)) → ev_lk w76 6 = some (.int (Int32.ofInt x13)) → ev_lk w76 7 = some (ev_nv r74) → ev_lk w76 8 = some (ev_nv r75) → ev_w none (ev_Mof 194) d 129 w76 [] s85 (K r74 r75 s85) ev_eX ev_PX) ?_ ?_
          · intro r74 hr74 r75 hr75 s85 w76 e77 e78 e79 e80 e81 e82 e83 e84
            refine ev_r_iconst (pc := 129) (k := 0) (by decide +kernel) ?_
            exact hK130 r74 hr74 r75 hr75 0 (by decide) s85 _ (by exact e77) (by exact e78) (by exact e79) (by exact e80) (by exact e81) (by exact e82) (by exact e83) (by exact e84)
          · intro K129 hK129
            refine ev_r_ifnull (pc := 117) (r := r37) (o := 12) (t := 129) (by decide +kernel) (by decide +kernel) ?_ ?_
            · intro c86
              exact hK129 r37 hr37 r42 hr42 s41 _ (by exact (ev_l1 (ev_l1 e15 (by decide) (by decide)) (by decide) (by decide))) (by exact (ev_l1 (ev_l1 e16 (by decide) (by decide)) (by decide) (by decide))) (by exact (ev_l1 (ev_l1 e17 (by decide) (by decide)) (by decide) (by decide))) (by exact (ev_l1 (ev_l1 e18 (by decide) (by decide)) (by decide) (by decide))) (by exact (ev_l1 (ev_l1 e19 (by decide) (by decide)) (by decide) (by decide))) (by exact (ev_l1 (ev_lk_st1 e20 (by decide) rfl) (by decide) (by decide))) (by exact (ev_lk_st1 ev_lk_st1_self (by decide) (ev_nv_cat _))) (by exact ev_lk_st1_self)
            · intro c86
              refine ev_r_aload (pc := 120) (k := 8) (v := ev_nv r42) (ev_isR_nv _) (by decide +kernel) (by exact ev_lk_st1_self) ?_
              refine ev_r_ifnull (pc := 122) (r := r42) (o := 7) (t := 129) (by decide +kernel) (by decide +kernel) ?_ ?_
              · intro c87
                exact hK129 r37 hr37 r42 hr42 s41 _ (by exact (ev_l1 (ev_l1 e15 (by decide) (by decide)) (by decide) (by decide))) (by exact (ev_l1 (ev_l1 e16 (by decide) (by decide)) (by decide) (by decide))) (by exact (ev_l1 (ev_l1 e17 (by decide) (by decide)) (by decide) (by decide))) (by exact (ev_l1 (ev_l1 e18 (by decide) (by decide)) (by decide) (by decide))) (by exact (ev_l1 (ev_l1 e19 (by decide) (by decide)) (by decide) (by decide))) (by exact (ev_l1 (ev_lk_st1 e20 (by decide) rfl) (by decide) (by decide))) (by exact (ev_lk_st1 ev_lk_st1_self (by decide) (ev_nv_cat _))) (by exact ev_lk_st1_self)
              · intro c87
                refine ev_r_iconst (pc := 125) (k := 1) (by decide +kernel) ?_
                refine ev_r_goto (pc := 126) (o := 4) (t := 130) (by decide +kernel) (by decide +kernel) ?_
                exact hK130 r37 hr37 r42 hr42 1 (by decide) s41 _ (by exact (ev_l1 (ev_l1 e15 (by decide) (by decide)) (by decide) (by decide))) (by exact (ev_l1 (ev_l1 e16 (by decide) (by decide)) (by decide) (by decide))) (by exact (ev_l1 (ev_l1 e17 (by decide) (by decide)) (by decide) (by decide))) (by exact (ev_l1 (ev_l1 e18 (by decide) (by decide)) (by decide) (by decide))) (by exact (ev_l1 (ev_l1 e19 (by decide) (by decide)) (by decide) (by decide))) (by exact (ev_l1 (ev_lk_st1 e20 (by decide) rfl) (by decide) (by decide))) (by exact (ev_lk_st1 ev_lk_st1_self (by decide) (ev_nv_cat _))) (by exact ev_lk_st1_self)
theorem jlt_194_64 (d : Nat) (hd : 8 ≤ d + 1) (Q : Nat) (a0 : Int) (a1 : Int) (ha0 : ev_rng a0) (ha1 : ev_rng a1)   : ∀ q : Nat, ∀ (r11 : Nat) (hr11 : ev_isAb r11 1 .int = true), ∀ (x12 : Int) (hx12 : ev_rng x12), ∀ (x13 : Int) (hx13 : ev_rng x13), ∀ (s21 : ev_St) (w14 : List (Nat × Value)), ev_lk w14 0 = some (.ref 0) → ev_lk w14 1 = some (.int (Int32.ofInt a0)) → ev_lk w14 2 = some (.int (Int32.ofInt a1)) → ev_lk w14 4 = some (.ref r11) → ev_lk w14 5 = some (.int (Int32.ofInt x12)) → ev_lk w14 6 = some (.int (Int32.ofInt x13)) → ev_w none (ev_Mof 194) d 64 w14 [] s21 (jl_194_64 Q a0 a1  q r11 x12 x13 s21) ev_eX ev_PX := by
  intro q
  induction q with
  | zero =>
    intro r11 hr11 x12 hx12 x13 hx13 s21 w14 e15 e16 e17 e18 e19 e20
    exact ev_w_none
  | succ q ih => exact jbt_194_64 d hd Q a0 a1 ha0 ha1   _ ih
/-- MendBench.play(II)I -/
def jm_194 (Q : Nat) (a0 : Int) (a1 : Int) (S : ev_St) : Option ((Int ⊕ String) × ev_St) := ev_bd (jm_1 Q a1 S) fun r2 s1 => if a0 < 0 then (some (.inr "java/lang/IndexOutOfBoundsException", ev_tick s1)) else (ev_b (s1.1 0 15) fun x4 => if x4 ≤ a0 then (some (.inr "java/lang/IndexOutOfBoundsException", ev_tick s1)) else (if 6 ≤ a0 then (some (.inr "java/lang/IndexOutOfBoundsException", ev_tick s1)) else (if (r2 : Nat) = 0 then (some (.inr "java/lang/IndexOutOfBoundsException", ev_tick s1)) else (ev_bd (jm_43 Q r2 s1) fun _ s8 => ev_if ((0 : Int) ≤ a0 ∧ a0 < (6 : Int)) (ev_b (305 + 1 * Int.toNat a0) fun _ => jl_194_64 Q a0 a1  Q ((305 + 1 * Int.toNat a0)) 0 0 s8)))))
theorem jt_194 (d : Nat) (hd : 8 ≤ d) (Q : Nat) (a0 : Int) (a1 : Int) (ha0 : ev_rng a0) (ha1 : ev_rng a1) (S : ev_St) (x : Int ⊕ String) (S' : ev_St) (hJ : jm_194 Q a0 a1 S = some (x, S')) : ev_Ref d 194 [.ref 0, .int (Int32.ofInt a0), .int (Int32.ofInt a1)] S (ev_eX x) S' (ev_PX x) := by
  obtain ⟨d, rfl⟩ : ∃ e, d = e + 1 := ⟨d - 1, by omega⟩
  refine ev_ref_of (P := ev_PX) (lv := [(0, .ref 0), (1, .int (Int32.ofInt a0)), (2, .int (Int32.ofInt a1))]) (by decide +kernel) (by (try simp only [ev_sum, ev_nv_cat]); first | done | rfl) (by (try simp only [lv_args, ev_nv_cat]); first | done | rfl) ?_ x S' hJ
  unfold jm_194
  refine ev_r_aload_n (pc := 0) (k := 0) (v := .ref 0) trivial (by decide +kernel) (by rfl) ?_
  refine ev_r_getC (pc := 1) (y := 48) (ci := 12) (f := 8) (fin := 1) (k' := 254) (by decide +kernel) (by decide +kernel) (by exact ev_ob_0) rfl rfl ?_
  refine ev_r_iload_n (pc := 4) (k := 2) (v := Int32.ofInt a1) (by decide +kernel) (by rfl) ?_
  refine ev_r_virt (pc := 5) (y := 221) (mi := 1) (na := 1) (k := 254) (as := [.int (Int32.ofInt a1)]) (rest := []) (encc := ev_oR) (Q := (fun r => r = 0 ∨ ev_isOb (r - 1) 10 = true)) (fun x S1 h => jt_1 d (by omega) Q a1 ha1 S x S1 h) (by exact ev_ob_254) (by decide +kernel) (by decide +kernel) (by decide +kernel) (by decide +kernel) rfl (by (try simp only [ev_sum, ev_nv_cat]); first | done | rfl) ?_
  intro r2 s1 hr2
  show ev_w _ _ _ _ _ [ev_nv r2] _ _ _ _
  refine ev_r_astore_n (pc := 8) (k := 3) (ev_isR_nv _) (by decide +kernel) (by decide +kernel) rfl ?_
  refine ev_r_iload_n (pc := 9) (k := 1) (v := Int32.ofInt a0) (by decide +kernel) (by exact (ev_l1 (by rfl) (by decide) (by decide))) ?_
  refine ev_r_if (pc := 10) (q := .lt) (o := 21) (t := 31) (c := a0 < 0) (by decide +kernel) (ev_k_lt ha0 ev_rng0) (by decide +kernel) ?_ ?_
  · intro c3
    exact ev_r_throw (pc := 31) (x := (Sum.inr "java/lang/IndexOutOfBoundsException" : Int ⊕ String)) (y := 160) (E := "java/lang/IndexOutOfBoundsException") trivial (by decide +kernel) (by decide +kernel) (by decide +kernel) (Nat.ble_eq.mpr (by omega)) rfl
  · intro c3
    refine ev_r_iload_n (pc := 13) (k := 1) (v := Int32.ofInt a0) (by decide +kernel) (by exact (ev_l1 (by rfl) (by decide) (by decide))) ?_
    refine ev_r_aload_n (pc := 14) (k := 0) (v := .ref 0) trivial (by decide +kernel) (by exact (ev_l1 (by rfl) (by decide) (by decide))) ?_
    refine ev_r_getI (pc := 15) (y := 273) (ci := 12) (f := 15) (fin := 0) (by decide +kernel) (by decide +kernel) (by exact ev_ob_0) rfl ?_
    intro x4 hx4
    refine ev_r_icmp (pc := 18) (q := .ge) (o := 13) (t := 31) (c := x4 ≤ a0) (by decide +kernel) (ev_k_ge ha0 hx4) (by decide +kernel) ?_ ?_
    · intro c5
      exact ev_r_throw (pc := 31) (x := (Sum.inr "java/lang/IndexOutOfBoundsException" : Int ⊕ String)) (y := 160) (E := "java/lang/IndexOutOfBoundsException") trivial (by decide +kernel) (by decide +kernel) (by decide +kernel) (Nat.ble_eq.mpr (by omega)) rfl
    · intro c5
      refine ev_r_iload_n (pc := 21) (k := 1) (v := Int32.ofInt a0) (by decide +kernel) (by exact (ev_l1 (by rfl) (by decide) (by decide))) ?_
      refine ev_r_bipush (pc := 22) (k := 6) (by decide +kernel) (by decide +kernel) ?_
      refine ev_r_icmp (pc := 24) (q := .ge) (o := 7) (t := 31) (c := 6 ≤ a0) (by decide +kernel) (ev_k_ge ha0 (by decide)) (by decide +kernel) ?_ ?_
      · intro c6
        exact ev_r_throw (pc := 31) (x := (Sum.inr "java/lang/IndexOutOfBoundsException" : Int ⊕ String)) (y := 160) (E := "java/lang/IndexOutOfBoundsException") trivial (by decide +kernel) (by decide +kernel) (by decide +kernel) (Nat.ble_eq.mpr (by omega)) rfl
      · intro c6
        refine ev_r_aload_n (pc := 27) (k := 3) (v := ev_nv r2) (ev_isR_nv _) (by decide +kernel) (by exact ev_lk_st1_self) ?_
        refine ev_r_ifnonnull (pc := 28) (r := r2) (o := 14) (t := 42) (by decide +kernel) (by decide +kernel) ?_ ?_
        · intro c7
          refine ev_r_aload_n (pc := 42) (k := 0) (v := .ref 0) trivial (by decide +kernel) (by exact (ev_l1 (by rfl) (by decide) (by decide))) ?_
          refine ev_r_getC (pc := 43) (y := 55) (ci := 12) (f := 9) (fin := 1) (k' := 269) (by decide +kernel) (by decide +kernel) (by exact ev_ob_0) rfl rfl ?_
          refine ev_r_aload_n (pc := 46) (k := 3) (v := ev_nv r2) (ev_isR_nv _) (by decide +kernel) (by exact ev_lk_st1_self) ?_
          refine ev_r_virt (pc := 47) (y := 278) (mi := 43) (na := 1) (k := 269) (as := [ev_nv r2]) (rest := []) (encc := ev_oU) (Q := ev_PU) (fun x S1 h => jt_43 d (by omega) Q r2 (by exact hr2) s1 x S1 h) (by exact ev_ob_269) (by decide +kernel) (by decide +kernel) (by decide +kernel) (by decide +kernel) rfl (by (try simp only [ev_sum, ev_nv_cat]); first | done | rfl) ?_
          intro _ s8 _
          show ev_w _ _ _ _ _ [] _ _ _ _
          refine ev_r_aload_n (pc := 50) (k := 0) (v := .ref 0) trivial (by decide +kernel) (by exact (ev_l1 (by rfl) (by decide) (by decide))) ?_
          refine ev_r_getC (pc := 51) (y := 80) (ci := 12) (f := 13) (fin := 1) (k' := 304) (by decide +kernel) (by decide +kernel) (by exact ev_ob_0) rfl rfl ?_
          refine ev_r_iload_n (pc := 54) (k := 1) (v := Int32.ofInt a0) (by decide +kernel) (by exact (ev_l1 (by rfl) (by decide) (by decide))) ?_
          refine ev_r_aalda (pc := 55) (N := 6) (b := 305) (c := 1) (C := .int) ha0 (by decide +kernel) (by decide +kernel) ?_
          intro c9
          refine ev_r_astore (pc := 56) (k := 4) trivial (by decide +kernel) (by decide +kernel) rfl ?_
          refine ev_r_iconst (pc := 58) (k := 0) (by decide +kernel) ?_
          refine ev_r_istore (pc := 59) (k := 5) (by decide +kernel) (by decide +kernel) rfl ?_
          refine ev_r_iconst (pc := 61) (k := 0) (by decide +kernel) ?_
          refine ev_r_istore (pc := 62) (k := 6) (by decide +kernel) (by decide +kernel) rfl ?_
          exact jlt_194_64 d hd Q a0 a1 ha0 ha1   Q ((305 + 1 * Int.toNat a0)) (ev_el_304 c9) 0 (by decide) 0 (by decide) s8 _ (by exact (ev_l1 (ev_l1 (ev_l1 (ev_l1 (by rfl) (by decide) (by decide)) (by decide) (by decide)) (by decide) (by decide)) (by decide) (by decide))) (by exact (ev_l1 (ev_l1 (ev_l1 (ev_l1 (by rfl) (by decide) (by decide)) (by decide) (by decide)) (by decide) (by decide)) (by decide) (by decide))) (by exact (ev_l1 (ev_l1 (ev_l1 (ev_lk_st1 (by rfl) (by decide) rfl) (by decide) (by decide)) (by decide) (by decide)) (by decide) (by decide))) (by exact (ev_l1 (ev_lk_st1 ev_lk_st1_self (by decide) rfl) (by decide) (by decide))) (by exact (ev_lk_st1 ev_lk_st1_self (by decide) rfl)) (by exact ev_lk_st1_self)
        · intro c7
          exact ev_r_throw (pc := 31) (x := (Sum.inr "java/lang/IndexOutOfBoundsException" : Int ⊕ String)) (y := 160) (E := "java/lang/IndexOutOfBoundsException") trivial (by decide +kernel) (by decide +kernel) (by decide +kernel) (Nat.ble_eq.mpr (by omega)) rfl
/-- MendBench.stream(IZ)I -/
def jm_195 (Q : Nat) (a0 : Int) (a1 : Int) (S : ev_St) : Option ((Int ⊕ String) × ev_St) := ev_bd (jm_200 Q a0 S) fun r2 s1 => if (r2 : Nat) = 0 then (some (.inr "java/lang/IndexOutOfBoundsException", ev_tick s1)) else (ev_b (s1.1 ((r2 - 1)) 15) fun x4 => if x4 = 0 then (some (.inr "java/lang/IllegalStateException", ev_tick s1)) else (ev_b (s1.1 0 18) fun x6 => if x6 < 4 then (ev_b (s1.1 0 18) fun x8 => ev_if ((0 : Int) ≤ x8 ∧ x8 < (4 : Int)) (ev_b (569 + 13 * Int.toNat x8) fun _ => ev_bd (jm_147 Q ((569 + 13 * Int.toNat x8)) ((((r2 - 1) + 12) + 1)) a1 s1) fun _ s11 => ev_b (s11.1 0 18) fun x12 => ev_ck (x12 + 1) fun x13 => ev_b (ev_pI s11 0 18 x13) fun s14 => ev_b (s14.1 0 18) fun x15 => ev_ck (x15 - 1) fun x16 => some ((Sum.inl x16 : Int ⊕ String), s14))) else (some (.inr "java/lang/IllegalStateException", ev_tick s1))))
theorem jt_195 (d : Nat) (hd : 7 ≤ d) (Q : Nat) (a0 : Int) (a1 : Int) (ha0 : ev_rng a0) (ha1 : ev_rng a1) (S : ev_St) (x : Int ⊕ String) (S' : ev_St) (hJ : jm_195 Q a0 a1 S = some (x, S')) : ev_Ref d 195 [.ref 0, .int (Int32.ofInt a0), .int (Int32.ofInt a1)] S (ev_eX x) S' (ev_PX x) := by
  obtain ⟨d, rfl⟩ : ∃ e, d = e + 1 := ⟨d - 1, by omega⟩
  refine ev_ref_of (P := ev_PX) (lv := [(0, .ref 0), (1, .int (Int32.ofInt a0)), (2, .int (Int32.ofInt a1))]) (by decide +kernel) (by (try simp only [ev_sum, ev_nv_cat]); first | done | rfl) (by (try simp only [lv_args, ev_nv_cat]); first | done | rfl) ?_ x S' hJ
  unfold jm_195
  refine ev_r_aload_n (pc := 0) (k := 0) (v := .ref 0) trivial (by decide +kernel) (by rfl) ?_
  refine ev_r_iload_n (pc := 1) (k := 1) (v := Int32.ofInt a0) (by decide +kernel) (by rfl) ?_
  refine ev_r_virt (pc := 2) (y := 156) (mi := 200) (na := 1) (k := 0) (as := [.int (Int32.ofInt a0)]) (rest := []) (encc := ev_oR) (Q := (fun r => r = 0 ∨ ev_isOb (r - 1) 5 = true)) (fun x S1 h => jt_200 d (by omega) Q a0 ha0 S x S1 h) (by exact ev_ob_0) (by decide +kernel) (by decide +kernel) (by decide +kernel) (by decide +kernel) rfl (by (try simp only [ev_sum, ev_nv_cat]); first | done | rfl) ?_
  intro r2 s1 hr2
  show ev_w _ _ _ _ _ [ev_nv r2] _ _ _ _
  refine ev_r_astore_n (pc := 5) (k := 3) (ev_isR_nv _) (by decide +kernel) (by decide +kernel) rfl ?_
  refine ev_r_aload_n (pc := 6) (k := 3) (v := ev_nv r2) (ev_isR_nv _) (by decide +kernel) (by exact ev_lk_st1_self) ?_
  refine ev_r_ifnonnull (pc := 7) (r := r2) (o := 13) (t := 20) (by decide +kernel) (by decide +kernel) ?_ ?_
  · intro c3
    refine ev_r_aload_n (pc := 20) (k := 3) (v := ev_nv r2) (ev_isR_nv _) (by decide +kernel) (by exact ev_lk_st1_self) ?_
    refine ev_r_dr (r := r2) (fun v => [v]) c3 ?_
    refine ev_r_getI (pc := 21) (y := 172) (ci := 5) (f := 15) (fin := 0) (by decide +kernel) (by decide +kernel) (by exact (hr2.resolve_left c3)) rfl ?_
    intro x4 hx4
    refine ev_r_if (pc := 24) (q := .eq) (o := 11) (t := 35) (c := x4 = 0) (by decide +kernel) (ev_k_eq hx4 ev_rng0) (by decide +kernel) ?_ ?_
    · intro c5
      exact ev_r_throw (pc := 35) (x := (Sum.inr "java/lang/IllegalStateException" : Int ⊕ String)) (y := 109) (E := "java/lang/IllegalStateException") trivial (by decide +kernel) (by decide +kernel) (by decide +kernel) (Nat.ble_eq.mpr (by omega)) rfl
    · intro c5
      refine ev_r_aload_n (pc := 27) (k := 0) (v := .ref 0) trivial (by decide +kernel) (by exact (ev_l1 (by rfl) (by decide) (by decide))) ?_
      refine ev_r_getI (pc := 28) (y := 338) (ci := 12) (f := 18) (fin := 0) (by decide +kernel) (by decide +kernel) (by exact ev_ob_0) rfl ?_
      intro x6 hx6
      refine ev_r_iconst (pc := 31) (k := 4) (by decide +kernel) ?_
      refine ev_r_icmp (pc := 32) (q := .lt) (o := 14) (t := 46) (c := x6 < 4) (by decide +kernel) (ev_k_lt hx6 (by decide)) (by decide +kernel) ?_ ?_
      · intro c7
        refine ev_r_aload_n (pc := 46) (k := 0) (v := .ref 0) trivial (by decide +kernel) (by exact (ev_l1 (by rfl) (by decide) (by decide))) ?_
        refine ev_r_getC (pc := 47) (y := 89) (ci := 12) (f := 17) (fin := 1) (k' := 312) (by decide +kernel) (by decide +kernel) (by exact ev_ob_0) rfl rfl ?_
        refine ev_r_aload_n (pc := 50) (k := 0) (v := .ref 0) trivial (by decide +kernel) (by exact (ev_l1 (by rfl) (by decide) (by decide))) ?_
        refine ev_r_getI (pc := 51) (y := 338) (ci := 12) (f := 18) (fin := 0) (by decide +kernel) (by decide +kernel) (by exact ev_ob_0) rfl ?_
        intro x8 hx8
        refine ev_r_aald (pc := 54) (N := 4) (b := 569) (c := 13) (C := "MendBench$Stream") hx8 (by decide +kernel) (by decide +kernel) ?_
        intro c9
        refine ev_r_aload_n (pc := 55) (k := 3) (v := ev_nv r2) (ev_isR_nv _) (by decide +kernel) (by exact ev_lk_st1_self) ?_
        refine ev_r_dr (r := r2) (fun v => [v, .ref ((569 + 13 * Int.toNat x8))]) c3 ?_
        refine ev_r_getC (pc := 56) (y := 343) (ci := 5) (f := 13) (fin := 2) (k' := ((r2 - 1) + 12)) (by decide +kernel) (by decide +kernel) (by exact (hr2.resolve_left c3)) rfl rfl ?_
        refine ev_r_iload_n (pc := 59) (k := 2) (v := Int32.ofInt a1) (by decide +kernel) (by exact (ev_lk_st1 (by rfl) (by decide) rfl)) ?_
        refine ev_r_virt (pc := 60) (y := 347) (mi := 147) (na := 2) (k := (569 + 13 * Int.toNat x8)) (as := [ev_nv ((((r2 - 1) + 12) + 1)), .int (Int32.ofInt a1)]) (rest := []) (encc := ev_oU) (Q := ev_PU) (fun x S1 h => jt_147 d (by omega) Q ((569 + 13 * Int.toNat x8)) ((((r2 - 1) + 12) + 1)) a1 (ev_el_312 c9) (by exact (Or.inr (ev_fo_5_13 (hr2.resolve_left c3)))) ha1 s1 x S1 h) (by exact (ev_el_312 c9)) (by decide +kernel) (by decide +kernel) (by decide +kernel) (by decide +kernel) rfl (by (try simp only [ev_sum, ev_nv_cat]); first | done | rfl) ?_
        intro _ s11 _
        show ev_w _ _ _ _ _ [] _ _ _ _
        refine ev_r_aload_n (pc := 63) (k := 0) (v := .ref 0) trivial (by decide +kernel) (by exact (ev_l1 (by rfl) (by decide) (by decide))) ?_
        refine ev_r_dup (pc := 64) rfl (by decide +kernel) ?_
        refine ev_r_getI (pc := 65) (y := 338) (ci := 12) (f := 18) (fin := 0) (by decide +kernel) (by decide +kernel) (by exact ev_ob_0) rfl ?_
        intro x12 hx12
        refine ev_r_iconst (pc := 68) (k := 1) (by decide +kernel) ?_
        refine ev_r_iadd (pc := 69) (by decide +kernel) ?_
        intro x13 hx13
        refine ev_r_putI (pc := 70) (y := 338) (ci := 12) (f := 18) hx13 (by decide +kernel) (by decide +kernel) (by exact ev_ob_0) rfl rfl ?_
        intro s14
        refine ev_r_aload_n (pc := 73) (k := 0) (v := .ref 0) trivial (by decide +kernel) (by exact (ev_l1 (by rfl) (by decide) (by decide))) ?_
        refine ev_r_getI (pc := 74) (y := 338) (ci := 12) (f := 18) (fin := 0) (by decide +kernel) (by decide +kernel) (by exact ev_ob_0) rfl ?_
        intro x15 hx15
        refine ev_r_iconst (pc := 77) (k := 1) (by decide +kernel) ?_
        refine ev_r_isub (pc := 78) (by decide +kernel) ?_
        intro x16 hx16
        exact ev_r_ireturn (pc := 79) (x := (Sum.inl x16 : Int ⊕ String)) (v := Int32.ofInt x16) (ty := .int) hx16 (by decide +kernel) (by decide +kernel) rfl rfl
      · intro c7
        exact ev_r_throw (pc := 35) (x := (Sum.inr "java/lang/IllegalStateException" : Int ⊕ String)) (y := 109) (E := "java/lang/IllegalStateException") trivial (by decide +kernel) (by decide +kernel) (by decide +kernel) (Nat.ble_eq.mpr (by omega)) rfl
  · intro c3
    exact ev_r_throw (pc := 10) (x := (Sum.inr "java/lang/IndexOutOfBoundsException" : Int ⊕ String)) (y := 160) (E := "java/lang/IndexOutOfBoundsException") trivial (by decide +kernel) (by decide +kernel) (by decide +kernel) (Nat.ble_eq.mpr (by omega)) rfl
