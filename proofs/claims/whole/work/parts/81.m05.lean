/-! METHODS as functions, laid by decomp.py -/
theorem ev_ob_3 : ev_isOb 3 7 = true := (by decide +kernel)
theorem ev_el_4 {i : Int} (h : 0 ≤ i ∧ i < (26 : Int)) : ev_isOb (169 + 2 * i.toNat) 10 = true := (show ∀ j, j < 26 → ev_isOb (169 + 2 * j) 10 = true from (by decide +kernel)) i.toNat (by omega)
theorem ev_ab_5 : ev_isAb 5 1 .boolean = true := (by decide +kernel)
theorem ev_el_14 {i : Int} (h : 0 ≤ i ∧ i < (152 : Int)) : ev_isOb (17 + 1 * i.toNat) 4 = true := (show ∀ j, j < 152 → ev_isOb (17 + 1 * j) 4 = true from (by decide +kernel)) i.toNat (by omega)
theorem ev_ab_16 : ev_isAb 16 1 .int = true := (by decide +kernel)
def jb_67_2 (Q : Nat) (k : Nat)  (K2 : Int → ev_St → Option ((Unit) × ev_St)) (x1 : Int) (s5 : ev_St) : Option ((Unit) × ev_St) := ev_b (s5.1 k 11) fun x6 => if x6 ≤ x1 then (some ((), s5)) else (if 400 ≤ x1 then (some ((), s5)) else (ev_if ((0 : Int) ≤ x1 ∧ x1 < (ev_aln ((k + 4)) : Int)) (ev_b (s5.1 ((k + 4)) (Int.toNat x1)) fun x9 => ev_if ((0 : Int) ≤ x1 ∧ x1 < (ev_aln ((k + 1)) : Int)) (ev_b (s5.1 ((k + 1)) (Int.toNat x1)) fun x10 => ev_bd (jm_62 Q x10 s5) fun x12 s11 => ev_jn (fun  (s16 : ev_St) => ev_ck (x1 + 1) fun x17 => K2 x17 s16) fun K75 => ev_jn (fun  (s21 : ev_St) => ev_if ((0 : Int) ≤ x1 ∧ x1 < (ev_aln ((k + 1)) : Int)) (ev_b (s21.1 ((k + 1)) (Int.toNat x1)) fun x22 => ev_bd (jm_64 Q x22 s21) fun x24 s23 => if x24 = 0 then (K75  s23) else (ev_bd (jm_68 Q k x1 s23) fun _ s26 => K75  s26))) fun K58 => if x12 = 0 then (K58  s11) else (ev_bd (jm_59 Q k x9 s11) fun x29 s28 => if x29 = 0 then (K58  s28) else (ev_ck (4 * x1) fun x31 => ev_ck (x31 + 1) fun x32 => ev_if ((0 : Int) ≤ x9 ∧ x9 < (ev_aln ((k + 7)) : Int)) (ev_b (ev_pI s28 ((k + 7)) (Int.toNat x9) x32) fun s33 => K75  s33)))))))
def jl_67_2 (Q : Nat) (k : Nat)  : Nat → Int → ev_St → Option ((Unit) × ev_St)
  | 0 => fun _ _ => none
  | q + 1 => jb_67_2 Q k  (jl_67_2 Q k  q)
theorem jbt_67_2 (d : Nat) (hd : 3 ≤ d + 1) (Q : Nat) (k : Nat) (hk : ev_isOb k 5 = true)   (K2 : Int → ev_St → Option ((Unit) × ev_St)) (hK2 : ∀ (x1 : Int) (hx1 : ev_rng x1), ∀ (s5 : ev_St) (w2 : List (Nat × Value)), ev_lk w2 0 = some (.ref k) → ev_lk w2 1 = some (.int (Int32.ofInt x1)) → ev_w none (ev_Mof 67) d 2 w2 [] s5 (K2 x1 s5) ev_eU ev_PU) : ∀ (x1 : Int) (hx1 : ev_rng x1), ∀ (s5 : ev_St) (w2 : List (Nat × Value)), ev_lk w2 0 = some (.ref k) → ev_lk w2 1 = some (.int (Int32.ofInt x1)) → ev_w none (ev_Mof 67) d 2 w2 [] s5 (jb_67_2 Q k  K2 x1 s5) ev_eU ev_PU := by
  intro x1 hx1 s5 w2 e3 e4
  unfold jb_67_2
  refine ev_r_iload_n (pc := 2) (k := 1) (v := Int32.ofInt x1) (by decide +kernel) (by exact e4) ?_
  refine ev_r_aload_n (pc := 3) (k := 0) (v := .ref k) trivial (by decide +kernel) (by exact e3) ?_
  refine ev_r_getI (pc := 4) (y := 60) (ci := 5) (f := 11) (fin := 0) (by decide +kernel) (by decide +kernel) (by exact hk) rfl ?_
  intro x6 hx6
  refine ev_r_icmp (pc := 7) (q := .ge) (o := 74) (t := 81) (c := x6 ≤ x1) (by decide +kernel) (ev_k_ge hx1 hx6) (by decide +kernel) ?_ ?_
  · intro c7
    exact ev_r_return (pc := 81) (x := ()) trivial (by decide +kernel) (by decide +kernel) rfl
  · intro c7
    refine ev_r_iload_n (pc := 10) (k := 1) (v := Int32.ofInt x1) (by decide +kernel) (by exact e4) ?_
    refine ev_r_sipush (pc := 11) (k := 400) (by decide +kernel) (by decide +kernel) ?_
    refine ev_r_icmp (pc := 14) (q := .ge) (o := 67) (t := 81) (c := 400 ≤ x1) (by decide +kernel) (ev_k_ge hx1 (by decide)) (by decide +kernel) ?_ ?_
    · intro c8
      exact ev_r_return (pc := 81) (x := ()) trivial (by decide +kernel) (by decide +kernel) rfl
    · intro c8
      refine ev_r_aload_n (pc := 17) (k := 0) (v := .ref k) trivial (by decide +kernel) (by exact e3) ?_
      refine ev_r_getC (pc := 18) (y := 21) (ci := 5) (f := 3) (fin := 1) (k' := (k + 4)) (by decide +kernel) (by decide +kernel) (by exact hk) rfl rfl ?_
      refine ev_r_iload_n (pc := 21) (k := 1) (v := Int32.ofInt x1) (by decide +kernel) (by exact e4) ?_
      refine ev_r_iald (pc := 22) hx1 (by decide +kernel) (by exact (ev_fo_5_3 hk)) ?_
      intro x9 hx9
      refine ev_r_istore_n (pc := 23) (k := 2) (by decide +kernel) (by decide +kernel) rfl ?_
      refine ev_r_aload_n (pc := 24) (k := 0) (v := .ref k) trivial (by decide +kernel) (by exact (ev_l1 e3 (by decide) (by decide))) ?_
      refine ev_r_getC (pc := 25) (y := 11) (ci := 5) (f := 0) (fin := 1) (k' := (k + 1)) (by decide +kernel) (by decide +kernel) (by exact hk) rfl rfl ?_
      refine ev_r_iload_n (pc := 28) (k := 1) (v := Int32.ofInt x1) (by decide +kernel) (by exact (ev_lk_st1 e4 (by decide) rfl)) ?_
      refine ev_r_iald (pc := 29) hx1 (by decide +kernel) (by exact (ev_fo_5_0 hk)) ?_
      intro x10 hx10
      refine ev_r_stat (pc := 30) (y := 83) (kind := 2) (mi := 62) (na := 1) (as := [.int (Int32.ofInt x10)]) (rest := []) (encc := ev_oI) (Q := ev_bl) (fun x S1 h => jt_62 d (by omega) Q x10 hx10 s5 x S1 h) (Or.inl rfl) (by decide +kernel) (by decide +kernel) (by decide +kernel) (by decide +kernel) rfl (by (try simp only [ev_sum, ev_nv_cat]); first | done | rfl) ?_
      intro x12 s11 hx12
      replace hx12 := ev_bl_rng hx12
      show ev_w _ _ _ _ _ [.int (Int32.ofInt x12)] _ _ _ _
      refine ev_r_jn (Q := fun K => ∀ (s16 : ev_St) (w13 : List (Nat × Value)), ev_lk w13 0 = some (.ref k) → ev_lk w13 1 = some (.int (Int32.ofInt x1)) → ev_w none (ev_Mof 67) d 75 w13 [] s16 (K  s16) ev_eU ev_PU) ?_ ?_
      · intro  s16 w13 e14 e15
        refine ev_r_iinc (pc := 75) (k := 1) (c := 1) (x := x1) (by decide +kernel) (by decide +kernel) (by exact e15) (fun _ => rfl) ?_
        intro x17 hx17
        refine ev_r_goto (pc := 78) (o := (-76)) (t := 2) (by decide +kernel) (by decide +kernel) ?_
        exact hK2 x17 hx17 s16 _ (by exact (ev_lk_st1 e14 (by decide) rfl)) (by exact ev_lk_st1_self)
      · intro K75 hK75
        refine ev_r_jn (Q := fun K => ∀ (s21 : ev_St) (w18 : List (Nat × Value)), ev_lk w18 0 = some (.ref k) → ev_lk w18 1 = some (.int (Int32.ofInt x1)) → ev_w none (ev_Mof 67) d 58 w18 [] s21 (K  s21) ev_eU ev_PU) ?_ ?_
        · intro  s21 w18 e19 e20
          refine ev_r_aload_n (pc := 58) (k := 0) (v := .ref k) trivial (by decide +kernel) (by exact e19) ?_
          refine ev_r_getC (pc := 59) (y := 11) (ci := 5) (f := 0) (fin := 1) (k' := (k + 1)) (by decide +kernel) (by decide +kernel) (by exact hk) rfl rfl ?_
          refine ev_r_iload_n (pc := 62) (k := 1) (v := Int32.ofInt x1) (by decide +kernel) (by exact e20) ?_
          refine ev_r_iald (pc := 63) hx1 (by decide +kernel) (by exact (ev_fo_5_0 hk)) ?_
          intro x22 hx22
          refine ev_r_stat (pc := 64) (y := 86) (kind := 2) (mi := 64) (na := 1) (as := [.int (Int32.ofInt x22)]) (rest := []) (encc := ev_oI) (Q := ev_bl) (fun x S1 h => jt_64 d (by omega) Q x22 hx22 s21 x S1 h) (Or.inl rfl) (by decide +kernel) (by decide +kernel) (by decide +kernel) (by decide +kernel) rfl (by (try simp only [ev_sum, ev_nv_cat]); first | done | rfl) ?_
          intro x24 s23 hx24
          replace hx24 := ev_bl_rng hx24
          show ev_w _ _ _ _ _ [.int (Int32.ofInt x24)] _ _ _ _
          refine ev_r_if (pc := 67) (q := .eq) (o := 8) (t := 75) (c := x24 = 0) (by decide +kernel) (ev_k_eq hx24 ev_rng0) (by decide +kernel) ?_ ?_
          · intro c25
            exact hK75  s23 _ (by exact e19) (by exact e20)
          · intro c25
            refine ev_r_aload_n (pc := 70) (k := 0) (v := .ref k) trivial (by decide +kernel) (by exact e19) ?_
            refine ev_r_iload_n (pc := 71) (k := 1) (v := Int32.ofInt x1) (by decide +kernel) (by exact e20) ?_
            refine ev_r_virt (pc := 72) (y := 89) (mi := 68) (na := 1) (k := k) (as := [.int (Int32.ofInt x1)]) (rest := []) (encc := ev_oU) (Q := ev_PU) (fun x S1 h => jt_68 d (by omega) Q k x1 hk hx1 s23 x S1 h) (by exact hk) (by decide +kernel) (by decide +kernel) (by decide +kernel) (by decide +kernel) rfl (by (try simp only [ev_sum, ev_nv_cat]); first | done | rfl) ?_
            intro _ s26 _
            show ev_w _ _ _ _ _ [] _ _ _ _
            exact hK75  s26 _ (by exact e19) (by exact e20)
        · intro K58 hK58
          refine ev_r_if (pc := 33) (q := .eq) (o := 25) (t := 58) (c := x12 = 0) (by decide +kernel) (ev_k_eq hx12 ev_rng0) (by decide +kernel) ?_ ?_
          · intro c27
            exact hK58  s11 _ (by exact (ev_l1 e3 (by decide) (by decide))) (by exact (ev_lk_st1 e4 (by decide) rfl))
          · intro c27
            refine ev_r_aload_n (pc := 36) (k := 0) (v := .ref k) trivial (by decide +kernel) (by exact (ev_l1 e3 (by decide) (by decide))) ?_
            refine ev_r_iload_n (pc := 37) (k := 2) (v := Int32.ofInt x9) (by decide +kernel) (by exact ev_lk_st1_self) ?_
            refine ev_r_virt (pc := 38) (y := 73) (mi := 59) (na := 1) (k := k) (as := [.int (Int32.ofInt x9)]) (rest := []) (encc := ev_oI) (Q := ev_bl) (fun x S1 h => jt_59 d (by omega) Q k x9 hk hx9 s11 x S1 h) (by exact hk) (by decide +kernel) (by decide +kernel) (by decide +kernel) (by decide +kernel) rfl (by (try simp only [ev_sum, ev_nv_cat]); first | done | rfl) ?_
            intro x29 s28 hx29
            replace hx29 := ev_bl_rng hx29
            show ev_w _ _ _ _ _ [.int (Int32.ofInt x29)] _ _ _ _
            refine ev_r_if (pc := 41) (q := .eq) (o := 17) (t := 58) (c := x29 = 0) (by decide +kernel) (ev_k_eq hx29 ev_rng0) (by decide +kernel) ?_ ?_
            · intro c30
              exact hK58  s28 _ (by exact (ev_l1 e3 (by decide) (by decide))) (by exact (ev_lk_st1 e4 (by decide) rfl))
            · intro c30
              refine ev_r_aload_n (pc := 44) (k := 0) (v := .ref k) trivial (by decide +kernel) (by exact (ev_l1 e3 (by decide) (by decide))) ?_
              refine ev_r_getC (pc := 45) (y := 30) (ci := 5) (f := 6) (fin := 1) (k' := (k + 7)) (by decide +kernel) (by decide +kernel) (by exact hk) rfl rfl ?_
              refine ev_r_iload_n (pc := 48) (k := 2) (v := Int32.ofInt x9) (by decide +kernel) (by exact ev_lk_st1_self) ?_
              refine ev_r_iconst (pc := 49) (k := 4) (by decide +kernel) ?_
              refine ev_r_iload_n (pc := 50) (k := 1) (v := Int32.ofInt x1) (by decide +kernel) (by exact (ev_lk_st1 e4 (by decide) rfl)) ?_
              refine ev_r_imul (pc := 51) (by decide +kernel) ?_
              intro x31 hx31
              refine ev_r_iconst (pc := 52) (k := 1) (by decide +kernel) ?_
              refine ev_r_iadd (pc := 53) (by decide +kernel) ?_
              intro x32 hx32
              refine ev_r_iast (pc := 54) hx32 hx9 (by decide +kernel) (by exact (ev_fo_5_6 hk)) ?_
              intro s33
              refine ev_r_goto (pc := 55) (o := 20) (t := 75) (by decide +kernel) (by decide +kernel) ?_
              exact hK75  s33 _ (by exact (ev_l1 e3 (by decide) (by decide))) (by exact (ev_lk_st1 e4 (by decide) rfl))
theorem jlt_67_2 (d : Nat) (hd : 3 ≤ d + 1) (Q : Nat) (k : Nat) (hk : ev_isOb k 5 = true)   : ∀ q : Nat, ∀ (x1 : Int) (hx1 : ev_rng x1), ∀ (s5 : ev_St) (w2 : List (Nat × Value)), ev_lk w2 0 = some (.ref k) → ev_lk w2 1 = some (.int (Int32.ofInt x1)) → ev_w none (ev_Mof 67) d 2 w2 [] s5 (jl_67_2 Q k  q x1 s5) ev_eU ev_PU := by
  intro q
  induction q with
  | zero =>
    intro x1 hx1 s5 w2 e3 e4
    exact ev_w_none
  | succ q ih => exact jbt_67_2 d hd Q k hk   _ ih
/-- MendBench$Pattern.tie()V -/
def jm_67 (Q : Nat) (k : Nat) (S : ev_St) : Option ((Unit) × ev_St) := jl_67_2 Q k  Q 0 S
theorem jt_67 (d : Nat) (hd : 3 ≤ d) (Q : Nat) (k : Nat) (hk : ev_isOb k 5 = true) (S : ev_St) (x : Unit) (S' : ev_St) (hJ : jm_67 Q k S = some (x, S')) : ev_Ref d 67 [.ref k] S (ev_eU x) S' (ev_PU x) := by
  obtain ⟨d, rfl⟩ : ∃ e, d = e + 1 := ⟨d - 1, by omega⟩
  refine ev_ref_of (P := ev_PU) (lv := [(0, .ref k)]) (by decide +kernel) (by (try simp only [ev_sum, ev_nv_cat]); first | done | rfl) (by (try simp only [lv_args, ev_nv_cat]); first | done | rfl) ?_ x S' hJ
  unfold jm_67
  refine ev_r_iconst (pc := 0) (k := 0) (by decide +kernel) ?_
  refine ev_r_istore_n (pc := 1) (k := 1) (by decide +kernel) (by decide +kernel) rfl ?_
  exact jlt_67_2 d hd Q k hk   Q 0 (by decide) S _ (by exact (ev_lk_st1 (by rfl) (by decide) rfl)) (by exact ev_lk_st1_self)
/-- MendBench$Reader.keepPart(ILMendBench$Text;)V -/
def jm_82 (Q : Nat) (a0 : Int) (a1 : Nat) (S : ev_St) : Option ((Unit) × ev_St) := ev_bd (jm_209 Q a0 S) fun x2 s1 => if x2 = 0 then (some ((), s1)) else (ev_ck (a0 - 97) fun x4 => ev_if ((0 : Int) ≤ x4 ∧ x4 < (26 : Int)) (ev_b (169 + 2 * Int.toNat x4) fun _ => ev_bd (jm_153 Q ((169 + 2 * Int.toNat x4)) a1 s1) fun _ s7 => ev_ck (a0 - 97) fun x8 => ev_if ((0 : Int) ≤ x8 ∧ x8 < (ev_aln 5 : Int)) (ev_b (ev_pI s7 5 (Int.toNat x8) 1) fun s9 => some ((), s9))))
theorem jt_82 (d : Nat) (hd : 2 ≤ d) (Q : Nat) (a0 : Int) (a1 : Nat) (ha0 : ev_rng a0) (ha1 : a1 = 0 ∨ ev_isOb (a1 - 1) 10 = true) (S : ev_St) (x : Unit) (S' : ev_St) (hJ : jm_82 Q a0 a1 S = some (x, S')) : ev_Ref d 82 [.ref 3, .int (Int32.ofInt a0), ev_nv a1] S (ev_eU x) S' (ev_PU x) := by
  obtain ⟨d, rfl⟩ : ∃ e, d = e + 1 := ⟨d - 1, by omega⟩
  refine ev_ref_of (P := ev_PU) (lv := [(0, .ref 3), (1, .int (Int32.ofInt a0)), (2, ev_nv a1)]) (by decide +kernel) (by (try simp only [ev_sum, ev_nv_cat]); first | done | rfl) (by (try simp only [lv_args, ev_nv_cat]); first | done | rfl) ?_ x S' hJ
  unfold jm_82
  refine ev_r_iload_n (pc := 0) (k := 1) (v := Int32.ofInt a0) (by decide +kernel) (by rfl) ?_
  refine ev_r_stat (pc := 1) (y := 43) (kind := 5) (mi := 209) (na := 1) (as := [.int (Int32.ofInt a0)]) (rest := []) (encc := ev_oI) (Q := ev_bl) (fun x S1 h => jt_209 d (by omega) Q a0 ha0 S x S1 h) (Or.inr (Or.inl rfl)) (by decide +kernel) (by decide +kernel) (by decide +kernel) (by decide +kernel) rfl (by (try simp only [ev_sum, ev_nv_cat]); first | done | rfl) ?_
  intro x2 s1 hx2
  replace hx2 := ev_bl_rng hx2
  show ev_w _ _ _ _ _ [.int (Int32.ofInt x2)] _ _ _ _
  refine ev_r_if (pc := 4) (q := .eq) (o := 26) (t := 30) (c := x2 = 0) (by decide +kernel) (ev_k_eq hx2 ev_rng0) (by decide +kernel) ?_ ?_
  · intro c3
    exact ev_r_return (pc := 30) (x := ()) trivial (by decide +kernel) (by decide +kernel) rfl
  · intro c3
    refine ev_r_aload_n (pc := 7) (k := 0) (v := .ref 3) trivial (by decide +kernel) (by rfl) ?_
    refine ev_r_getC (pc := 8) (y := 11) (ci := 7) (f := 0) (fin := 1) (k' := 4) (by decide +kernel) (by decide +kernel) (by exact ev_ob_3) rfl rfl ?_
    refine ev_r_iload_n (pc := 11) (k := 1) (v := Int32.ofInt a0) (by decide +kernel) (by rfl) ?_
    refine ev_r_bipush (pc := 12) (k := 97) (by decide +kernel) (by decide +kernel) ?_
    refine ev_r_isub (pc := 14) (by decide +kernel) ?_
    intro x4 hx4
    refine ev_r_aald (pc := 15) (N := 26) (b := 169) (c := 2) (C := "MendBench$Text") hx4 (by decide +kernel) (by decide +kernel) ?_
    intro c5
    refine ev_r_aload_n (pc := 16) (k := 2) (v := ev_nv a1) (ev_isR_nv _) (by decide +kernel) (by rfl) ?_
    refine ev_r_virt (pc := 17) (y := 47) (mi := 153) (na := 1) (k := (169 + 2 * Int.toNat x4)) (as := [ev_nv a1]) (rest := []) (encc := ev_oU) (Q := ev_PU) (fun x S1 h => jt_153 d (by omega) Q ((169 + 2 * Int.toNat x4)) a1 (ev_el_4 c5) (by exact ha1) s1 x S1 h) (by exact (ev_el_4 c5)) (by decide +kernel) (by decide +kernel) (by decide +kernel) (by decide +kernel) rfl (by (try simp only [ev_sum, ev_nv_cat]); first | done | rfl) ?_
    intro _ s7 _
    show ev_w _ _ _ _ _ [] _ _ _ _
    refine ev_r_aload_n (pc := 20) (k := 0) (v := .ref 3) trivial (by decide +kernel) (by rfl) ?_
    refine ev_r_getC (pc := 21) (y := 17) (ci := 7) (f := 1) (fin := 1) (k' := 5) (by decide +kernel) (by decide +kernel) (by exact ev_ob_3) rfl rfl ?_
    refine ev_r_iload_n (pc := 24) (k := 1) (v := Int32.ofInt a0) (by decide +kernel) (by rfl) ?_
    refine ev_r_bipush (pc := 25) (k := 97) (by decide +kernel) (by decide +kernel) ?_
    refine ev_r_isub (pc := 27) (by decide +kernel) ?_
    intro x8 hx8
    refine ev_r_iconst (pc := 28) (k := 1) (by decide +kernel) ?_
    refine ev_r_bast (pc := 29) (ty := .boolean) (Or.inr rfl) (ev_nar_bl (by decide : ev_bl 1)) (by decide) hx8 (by decide +kernel) (by exact ev_ab_5) ?_
    intro s9
    exact ev_r_return (pc := 30) (x := ()) trivial (by decide +kernel) (by decide +kernel) rfl
/-- MendBench$Reader.begin(IIZ)Z -/
def jm_98 (Q : Nat) (a0 : Int) (a1 : Int) (a2 : Int) (S : ev_St) : Option ((Int) × ev_St) := ev_b (S.1 3 10) fun x1 => ev_ck (x1 + 1) fun x2 => if x2 < 0 then (some (0, S)) else (ev_b (S.1 3 10) fun x4 => ev_ck (x4 + 1) fun x5 => if x5 < 152 then (ev_b (S.1 3 10) fun x7 => ev_ck (x7 + 1) fun x8 => ev_b (ev_pI S 3 10 x8) fun s9 => ev_b (s9.1 3 10) fun x10 => ev_if ((0 : Int) ≤ x10 ∧ x10 < (152 : Int)) (ev_b (17 + 1 * Int.toNat x10) fun _ => ev_b (ev_pI s9 ((17 + 1 * Int.toNat x10)) 0 a0) fun s13 => ev_b (ev_pI s13 ((17 + 1 * Int.toNat x10)) 1 a1) fun s14 => ev_b (s14.1 3 11) fun x15 => ev_b (ev_pI s14 ((17 + 1 * Int.toNat x10)) 2 x15) fun s16 => ev_if (ev_bl a2) (ev_b (ev_pI s16 ((17 + 1 * Int.toNat x10)) 3 a2) fun s17 => ev_b (ev_pI s17 ((17 + 1 * Int.toNat x10)) 4 ((-1))) fun s19 => ev_b (ev_pI s19 ((17 + 1 * Int.toNat x10)) 5 ((-1))) fun s20 => ev_b (ev_pI s20 ((17 + 1 * Int.toNat x10)) 6 ((-1))) fun s21 => ev_b (ev_pI s21 ((17 + 1 * Int.toNat x10)) 7 ((-1))) fun s22 => ev_b (ev_pI s22 ((17 + 1 * Int.toNat x10)) 8 ((-1))) fun s23 => ev_b (ev_pI s23 3 13 0) fun s24 => some (1, s24)))) else (some (0, S)))
theorem jt_98 (d : Nat) (hd : 1 ≤ d) (Q : Nat) (a0 : Int) (a1 : Int) (a2 : Int) (ha0 : ev_rng a0) (ha1 : ev_rng a1) (ha2 : ev_rng a2) (S : ev_St) (x : Int) (S' : ev_St) (hJ : jm_98 Q a0 a1 a2 S = some (x, S')) : ev_Ref d 98 [.ref 3, .int (Int32.ofInt a0), .int (Int32.ofInt a1), .int (Int32.ofInt a2)] S (ev_eI x) S' (ev_bl x) := by
  obtain ⟨d, rfl⟩ : ∃ e, d = e + 1 := ⟨d - 1, by omega⟩
  refine ev_ref_of (P := ev_bl) (lv := [(0, .ref 3), (1, .int (Int32.ofInt a0)), (2, .int (Int32.ofInt a1)), (3, .int (Int32.ofInt a2))]) (by decide +kernel) (by (try simp only [ev_sum, ev_nv_cat]); first | done | rfl) (by (try simp only [lv_args, ev_nv_cat]); first | done | rfl) ?_ x S' hJ
  unfold jm_98
  refine ev_r_aload_n (pc := 0) (k := 0) (v := .ref 3) trivial (by decide +kernel) (by rfl) ?_
  refine ev_r_getI (pc := 1) (y := 69) (ci := 7) (f := 10) (fin := 0) (by decide +kernel) (by decide +kernel) (by exact ev_ob_3) rfl ?_
  intro x1 hx1
  refine ev_r_iconst (pc := 4) (k := 1) (by decide +kernel) ?_
  refine ev_r_iadd (pc := 5) (by decide +kernel) ?_
  intro x2 hx2
  refine ev_r_if (pc := 6) (q := .lt) (o := 17) (t := 23) (c := x2 < 0) (by decide +kernel) (ev_k_lt hx2 ev_rng0) (by decide +kernel) ?_ ?_
  · intro c3
    refine ev_r_iconst (pc := 23) (k := 0) (by decide +kernel) ?_
    exact ev_r_ireturn (pc := 24) (x := 0) (v := Int32.ofInt 0) (ty := .boolean) (by decide : ev_bl 0) (by decide +kernel) (by decide +kernel) (ev_ret_bl (by decide : ev_bl 0)) rfl
  · intro c3
    refine ev_r_aload_n (pc := 9) (k := 0) (v := .ref 3) trivial (by decide +kernel) (by rfl) ?_
    refine ev_r_getI (pc := 10) (y := 69) (ci := 7) (f := 10) (fin := 0) (by decide +kernel) (by decide +kernel) (by exact ev_ob_3) rfl ?_
    intro x4 hx4
    refine ev_r_iconst (pc := 13) (k := 1) (by decide +kernel) ?_
    refine ev_r_iadd (pc := 14) (by decide +kernel) ?_
    intro x5 hx5
    refine ev_r_aload_n (pc := 15) (k := 0) (v := .ref 3) trivial (by decide +kernel) (by rfl) ?_
    refine ev_r_getC (pc := 16) (y := 30) (ci := 7) (f := 3) (fin := 1) (k' := 14) (by decide +kernel) (by decide +kernel) (by exact ev_ob_3) rfl rfl ?_
    refine ev_r_alenC (pc := 19) (kd := 3) (N := 152) (t := (.object "MendBench$Open", 17, 1)) (Or.inl rfl) (by decide +kernel) (by decide +kernel) ?_
    refine ev_r_icmp (pc := 20) (q := .lt) (o := 5) (t := 25) (c := x5 < 152) (by decide +kernel) (ev_k_lt hx5 (by decide)) (by decide +kernel) ?_ ?_
    · intro c6
      refine ev_r_aload_n (pc := 25) (k := 0) (v := .ref 3) trivial (by decide +kernel) (by rfl) ?_
      refine ev_r_dup (pc := 26) rfl (by decide +kernel) ?_
      refine ev_r_getI (pc := 27) (y := 69) (ci := 7) (f := 10) (fin := 0) (by decide +kernel) (by decide +kernel) (by exact ev_ob_3) rfl ?_
      intro x7 hx7
      refine ev_r_iconst (pc := 30) (k := 1) (by decide +kernel) ?_
      refine ev_r_iadd (pc := 31) (by decide +kernel) ?_
      intro x8 hx8
      refine ev_r_putI (pc := 32) (y := 69) (ci := 7) (f := 10) hx8 (by decide +kernel) (by decide +kernel) (by exact ev_ob_3) rfl rfl ?_
      intro s9
      refine ev_r_aload_n (pc := 35) (k := 0) (v := .ref 3) trivial (by decide +kernel) (by rfl) ?_
      refine ev_r_getC (pc := 36) (y := 30) (ci := 7) (f := 3) (fin := 1) (k' := 14) (by decide +kernel) (by decide +kernel) (by exact ev_ob_3) rfl rfl ?_
      refine ev_r_aload_n (pc := 39) (k := 0) (v := .ref 3) trivial (by decide +kernel) (by rfl) ?_
      refine ev_r_getI (pc := 40) (y := 69) (ci := 7) (f := 10) (fin := 0) (by decide +kernel) (by decide +kernel) (by exact ev_ob_3) rfl ?_
      intro x10 hx10
      refine ev_r_aald (pc := 43) (N := 152) (b := 17) (c := 1) (C := "MendBench$Open") hx10 (by decide +kernel) (by decide +kernel) ?_
      intro c11
      refine ev_r_astore (pc := 44) (k := 4) trivial (by decide +kernel) (by decide +kernel) rfl ?_
      refine ev_r_aload (pc := 46) (k := 4) (v := .ref ((17 + 1 * Int.toNat x10))) trivial (by decide +kernel) (by exact ev_lk_st1_self) ?_
      refine ev_r_iload_n (pc := 48) (k := 1) (v := Int32.ofInt a0) (by decide +kernel) (by exact (ev_l1 (by rfl) (by decide) (by decide))) ?_
      refine ev_r_putI (pc := 49) (y := 230) (ci := 4) (f := 0) ha0 (by decide +kernel) (by decide +kernel) (by exact (ev_el_14 c11)) rfl rfl ?_
      intro s13
      refine ev_r_aload (pc := 52) (k := 4) (v := .ref ((17 + 1 * Int.toNat x10))) trivial (by decide +kernel) (by exact ev_lk_st1_self) ?_
      refine ev_r_iload_n (pc := 54) (k := 2) (v := Int32.ofInt a1) (by decide +kernel) (by exact (ev_l1 (by rfl) (by decide) (by decide))) ?_
      refine ev_r_putI (pc := 55) (y := 233) (ci := 4) (f := 1) ha1 (by decide +kernel) (by decide +kernel) (by exact (ev_el_14 c11)) rfl rfl ?_
      intro s14
      refine ev_r_aload (pc := 58) (k := 4) (v := .ref ((17 + 1 * Int.toNat x10))) trivial (by decide +kernel) (by exact ev_lk_st1_self) ?_
      refine ev_r_aload_n (pc := 60) (k := 0) (v := .ref 3) trivial (by decide +kernel) (by exact (ev_l1 (by rfl) (by decide) (by decide))) ?_
      refine ev_r_getI (pc := 61) (y := 72) (ci := 7) (f := 11) (fin := 0) (by decide +kernel) (by decide +kernel) (by exact ev_ob_3) rfl ?_
      intro x15 hx15
      refine ev_r_putI (pc := 64) (y := 236) (ci := 4) (f := 2) hx15 (by decide +kernel) (by decide +kernel) (by exact (ev_el_14 c11)) rfl rfl ?_
      intro s16
      refine ev_r_aload (pc := 67) (k := 4) (v := .ref ((17 + 1 * Int.toNat x10))) trivial (by decide +kernel) (by exact ev_lk_st1_self) ?_
      refine ev_r_iload_n (pc := 69) (k := 3) (v := Int32.ofInt a2) (by decide +kernel) (by exact (ev_lk_st1 (by rfl) (by decide) rfl)) ?_
      refine ev_r_chk ?_
      intro c18
      refine ev_r_putI (pc := 70) (y := 114) (ci := 4) (f := 3) ha2 (by decide +kernel) (by decide +kernel) (by exact (ev_el_14 c11)) rfl (ev_fit_bl c18) ?_
      intro s17
      refine ev_r_aload (pc := 73) (k := 4) (v := .ref ((17 + 1 * Int.toNat x10))) trivial (by decide +kernel) (by exact ev_lk_st1_self) ?_
      refine ev_r_iconst (pc := 75) (k := -1) (by decide +kernel) ?_
      refine ev_r_putI (pc := 76) (y := 237) (ci := 4) (f := 4) (by decide) (by decide +kernel) (by decide +kernel) (by exact (ev_el_14 c11)) rfl rfl ?_
      intro s19
      refine ev_r_aload (pc := 79) (k := 4) (v := .ref ((17 + 1 * Int.toNat x10))) trivial (by decide +kernel) (by exact ev_lk_st1_self) ?_
      refine ev_r_iconst (pc := 81) (k := -1) (by decide +kernel) ?_
      refine ev_r_putI (pc := 82) (y := 240) (ci := 4) (f := 5) (by decide) (by decide +kernel) (by decide +kernel) (by exact (ev_el_14 c11)) rfl rfl ?_
      intro s20
      refine ev_r_aload (pc := 85) (k := 4) (v := .ref ((17 + 1 * Int.toNat x10))) trivial (by decide +kernel) (by exact ev_lk_st1_self) ?_
      refine ev_r_iconst (pc := 87) (k := -1) (by decide +kernel) ?_
      refine ev_r_putI (pc := 88) (y := 195) (ci := 4) (f := 6) (by decide) (by decide +kernel) (by decide +kernel) (by exact (ev_el_14 c11)) rfl rfl ?_
      intro s21
      refine ev_r_aload (pc := 91) (k := 4) (v := .ref ((17 + 1 * Int.toNat x10))) trivial (by decide +kernel) (by exact ev_lk_st1_self) ?_
      refine ev_r_iconst (pc := 93) (k := -1) (by decide +kernel) ?_
      refine ev_r_putI (pc := 94) (y := 189) (ci := 4) (f := 7) (by decide) (by decide +kernel) (by decide +kernel) (by exact (ev_el_14 c11)) rfl rfl ?_
      intro s22
      refine ev_r_aload (pc := 97) (k := 4) (v := .ref ((17 + 1 * Int.toNat x10))) trivial (by decide +kernel) (by exact ev_lk_st1_self) ?_
      refine ev_r_iconst (pc := 99) (k := -1) (by decide +kernel) ?_
      refine ev_r_putI (pc := 100) (y := 198) (ci := 4) (f := 8) (by decide) (by decide +kernel) (by decide +kernel) (by exact (ev_el_14 c11)) rfl rfl ?_
      intro s23
      refine ev_r_aload_n (pc := 103) (k := 0) (v := .ref 3) trivial (by decide +kernel) (by exact (ev_l1 (by rfl) (by decide) (by decide))) ?_
      refine ev_r_iconst (pc := 104) (k := 0) (by decide +kernel) ?_
      refine ev_r_putI (pc := 105) (y := 165) (ci := 7) (f := 13) (by decide) (by decide +kernel) (by decide +kernel) (by exact ev_ob_3) rfl (ev_fit_bl (by decide : ev_bl 0)) ?_
      intro s24
      refine ev_r_iconst (pc := 108) (k := 1) (by decide +kernel) ?_
      exact ev_r_ireturn (pc := 109) (x := 1) (v := Int32.ofInt 1) (ty := .boolean) (by decide : ev_bl 1) (by decide +kernel) (by decide +kernel) (ev_ret_bl (by decide : ev_bl 1)) rfl
    · intro c6
      refine ev_r_iconst (pc := 23) (k := 0) (by decide +kernel) ?_
      exact ev_r_ireturn (pc := 24) (x := 0) (v := Int32.ofInt 0) (ty := .boolean) (by decide : ev_bl 0) (by decide +kernel) (by decide +kernel) (ev_ret_bl (by decide : ev_bl 0)) rfl
/-- MendBench$Reader.endRow(LMendBench$Open;)Z -/
def jm_99 (Q : Nat) (a0 : Nat) (S : ev_St) : Option ((Int) × ev_St) := ev_b (S.2.2.1 3 9) fun r1 => ev_if (r1 ≠ 0) (ev_bd (jm_58 Q ((r1 - 1)) 15 0 0 S) fun x4 s3 => ev_b (s3.2.2.1 3 9) fun r5 => ev_if (r5 ≠ 0) (ev_bd (jm_59 Q ((r5 - 1)) x4 s3) fun x8 s7 => if x8 ≠ 0 then (ev_b (s7.2.2.1 3 9) fun r10 => ev_if (r10 ≠ 0) (ev_if (a0 ≠ 0) (ev_b (s7.1 ((a0 - 1)) 6) fun x13 => ev_if ((0 : Int) ≤ x4 ∧ x4 < (ev_aln (((r10 - 1) + 4)) : Int)) (ev_b (ev_pI s7 (((r10 - 1) + 4)) (Int.toNat x4) x13) fun s14 => ev_b (s14.2.2.1 3 9) fun r15 => ev_if (a0 ≠ 0) (ev_b (s14.1 ((a0 - 1)) 5) fun x17 => ev_if (r15 ≠ 0) (ev_bd (jm_59 Q ((r15 - 1)) x17 s14) fun x20 s19 => ev_jn (fun  (s25 : ev_St) => ev_if (a0 ≠ 0) (ev_b (ev_pI s25 ((a0 - 1)) 5 x4) fun s27 => ev_if (a0 ≠ 0) (ev_b (ev_pI s27 ((a0 - 1)) 6 ((-1))) fun s29 => ev_if (a0 ≠ 0) (ev_b (ev_pI s29 ((a0 - 1)) 7 ((-1))) fun s31 => ev_if (a0 ≠ 0) (ev_b (ev_pI s31 ((a0 - 1)) 8 ((-1))) fun s33 => ev_b (ev_pI s33 3 13 0) fun s34 => some (1, s34)))))) fun K73 => if x20 = 0 then (ev_if (a0 ≠ 0) (ev_b (ev_pI s19 ((a0 - 1)) 4 x4) fun s37 => K73  s37)) else (ev_b (s19.2.2.1 3 9) fun r38 => ev_if (r38 ≠ 0) (ev_if (a0 ≠ 0) (ev_b (s19.1 ((a0 - 1)) 5) fun x41 => ev_if ((0 : Int) ≤ x41 ∧ x41 < (ev_aln (((r38 - 1) + 5)) : Int)) (ev_b (ev_pI s19 (((r38 - 1) + 5)) (Int.toNat x41) x4) fun s42 => K73  s42)))))))))) else (some (0, s7))))
theorem jt_99 (d : Nat) (hd : 2 ≤ d) (Q : Nat) (a0 : Nat) (ha0 : a0 = 0 ∨ ev_isOb (a0 - 1) 4 = true) (S : ev_St) (x : Int) (S' : ev_St) (hJ : jm_99 Q a0 S = some (x, S')) : ev_Ref d 99 [.ref 3, ev_nv a0] S (ev_eI x) S' (ev_bl x) := by
  obtain ⟨d, rfl⟩ : ∃ e, d = e + 1 := ⟨d - 1, by omega⟩
  refine ev_ref_of (P := ev_bl) (lv := [(0, .ref 3), (1, ev_nv a0)]) (by decide +kernel) (by (try simp only [ev_sum, ev_nv_cat]); first | done | rfl) (by (try simp only [lv_args, ev_nv_cat]); first | done | rfl) ?_ x S' hJ
  unfold jm_99
  refine ev_r_aload_n (pc := 0) (k := 0) (v := .ref 3) trivial (by decide +kernel) (by rfl) ?_
  refine ev_r_getR (pc := 1) (y := 55) (ci := 7) (f := 9) (fin := 0) (t := 5) (by decide +kernel) (by decide +kernel) (by exact ev_ob_3) rfl rfl ?_
  intro r1 hr1
  have hr1 : r1 = 0 ∨ ev_isOb (r1 - 1) 5 = true := hr1
  refine ev_r_bipush (pc := 4) (k := 15) (by decide +kernel) (by decide +kernel) ?_
  refine ev_r_iconst (pc := 6) (k := 0) (by decide +kernel) ?_
  refine ev_r_iconst (pc := 7) (k := 0) (by decide +kernel) ?_
  refine ev_r_chk ?_
  intro c2
  refine ev_r_dr (r := r1) (fun v => [.int (Int32.ofInt 0), .int (Int32.ofInt 0), .int (Int32.ofInt 15), v]) c2 ?_
  refine ev_r_virt (pc := 8) (y := 168) (mi := 58) (na := 3) (k := (r1 - 1)) (as := [.int (Int32.ofInt 15), .int (Int32.ofInt 0), .int (Int32.ofInt 0)]) (rest := []) (encc := ev_oI) (Q := ev_rng) (fun x S1 h => jt_58 d (by omega) Q ((r1 - 1)) 15 0 0 (hr1.resolve_left c2) (by decide) (by decide) (by decide) S x S1 h) (by exact (hr1.resolve_left c2)) (by decide +kernel) (by decide +kernel) (by decide +kernel) (by decide +kernel) rfl (by (try simp only [ev_sum, ev_nv_cat]); first | done | rfl) ?_
  intro x4 s3 hx4
  show ev_w _ _ _ _ _ [.int (Int32.ofInt x4)] _ _ _ _
  refine ev_r_istore_n (pc := 11) (k := 2) (by decide +kernel) (by decide +kernel) rfl ?_
  refine ev_r_aload_n (pc := 12) (k := 0) (v := .ref 3) trivial (by decide +kernel) (by exact (ev_l1 (by rfl) (by decide) (by decide))) ?_
  refine ev_r_getR (pc := 13) (y := 55) (ci := 7) (f := 9) (fin := 0) (t := 5) (by decide +kernel) (by decide +kernel) (by exact ev_ob_3) rfl rfl ?_
  intro r5 hr5
  have hr5 : r5 = 0 ∨ ev_isOb (r5 - 1) 5 = true := hr5
  refine ev_r_iload_n (pc := 16) (k := 2) (v := Int32.ofInt x4) (by decide +kernel) (by exact ev_lk_st1_self) ?_
  refine ev_r_chk ?_
  intro c6
  refine ev_r_dr (r := r5) (fun v => [.int (Int32.ofInt x4), v]) c6 ?_
  refine ev_r_virt (pc := 17) (y := 179) (mi := 59) (na := 1) (k := (r5 - 1)) (as := [.int (Int32.ofInt x4)]) (rest := []) (encc := ev_oI) (Q := ev_bl) (fun x S1 h => jt_59 d (by omega) Q ((r5 - 1)) x4 (hr5.resolve_left c6) hx4 s3 x S1 h) (by exact (hr5.resolve_left c6)) (by decide +kernel) (by decide +kernel) (by decide +kernel) (by decide +kernel) rfl (by (try simp only [ev_sum, ev_nv_cat]); first | done | rfl) ?_
  intro x8 s7 hx8
  replace hx8 := ev_bl_rng hx8
  show ev_w _ _ _ _ _ [.int (Int32.ofInt x8)] _ _ _ _
  refine ev_r_if (pc := 20) (q := .ne) (o := 5) (t := 25) (c := x8 ≠ 0) (by decide +kernel) (ev_k_ne hx8 ev_rng0) (by decide +kernel) ?_ ?_
  · intro c9
    refine ev_r_aload_n (pc := 25) (k := 0) (v := .ref 3) trivial (by decide +kernel) (by exact (ev_l1 (by rfl) (by decide) (by decide))) ?_
    refine ev_r_getR (pc := 26) (y := 55) (ci := 7) (f := 9) (fin := 0) (t := 5) (by decide +kernel) (by decide +kernel) (by exact ev_ob_3) rfl rfl ?_
    intro r10 hr10
    have hr10 : r10 = 0 ∨ ev_isOb (r10 - 1) 5 = true := hr10
    refine ev_r_chk ?_
    intro c11
    refine ev_r_dr (r := r10) (fun v => [v]) c11 ?_
    refine ev_r_getC (pc := 29) (y := 201) (ci := 5) (f := 3) (fin := 2) (k' := ((r10 - 1) + 4)) (by decide +kernel) (by decide +kernel) (by exact (hr10.resolve_left c11)) rfl rfl ?_
    refine ev_r_iload_n (pc := 32) (k := 2) (v := Int32.ofInt x4) (by decide +kernel) (by exact ev_lk_st1_self) ?_
    refine ev_r_aload_n (pc := 33) (k := 1) (v := ev_nv a0) (ev_isR_nv _) (by decide +kernel) (by exact (ev_lk_st1 (by rfl) (by decide) (ev_nv_cat _))) ?_
    refine ev_r_chk ?_
    intro c12
    refine ev_r_dr (r := a0) (fun v => [v, .int (Int32.ofInt x4), .ref (((r10 - 1) + 4))]) c12 ?_
    refine ev_r_getI (pc := 34) (y := 195) (ci := 4) (f := 6) (fin := 0) (by decide +kernel) (by decide +kernel) (by exact (ha0.resolve_left c12)) rfl ?_
    intro x13 hx13
    refine ev_r_iast (pc := 37) hx13 hx4 (by decide +kernel) (by exact (ev_fo_5_3 (hr10.resolve_left c11))) ?_
    intro s14
    refine ev_r_aload_n (pc := 38) (k := 0) (v := .ref 3) trivial (by decide +kernel) (by exact (ev_l1 (by rfl) (by decide) (by decide))) ?_
    refine ev_r_getR (pc := 39) (y := 55) (ci := 7) (f := 9) (fin := 0) (t := 5) (by decide +kernel) (by decide +kernel) (by exact ev_ob_3) rfl rfl ?_
    intro r15 hr15
    have hr15 : r15 = 0 ∨ ev_isOb (r15 - 1) 5 = true := hr15
    refine ev_r_aload_n (pc := 42) (k := 1) (v := ev_nv a0) (ev_isR_nv _) (by decide +kernel) (by exact (ev_lk_st1 (by rfl) (by decide) (ev_nv_cat _))) ?_
    refine ev_r_chk ?_
    intro c16
    refine ev_r_dr (r := a0) (fun v => [v, ev_nv r15]) c16 ?_
    refine ev_r_getI (pc := 43) (y := 240) (ci := 4) (f := 5) (fin := 0) (by decide +kernel) (by decide +kernel) (by exact (ha0.resolve_left c16)) rfl ?_
    intro x17 hx17
    refine ev_r_chk ?_
    intro c18
    refine ev_r_dr (r := r15) (fun v => [.int (Int32.ofInt x17), v]) c18 ?_
    refine ev_r_virt (pc := 46) (y := 179) (mi := 59) (na := 1) (k := (r15 - 1)) (as := [.int (Int32.ofInt x17)]) (rest := []) (encc := ev_oI) (Q := ev_bl) (fun x S1 h => jt_59 d (by omega) Q ((r15 - 1)) x17 (hr15.resolve_left c18) hx17 s14 x S1 h) (by exact (hr15.resolve_left c18)) (by decide +kernel) (by decide +kernel) (by decide +kernel) (by decide +kernel) rfl (by (try simp only [ev_sum, ev_nv_cat]); first | done | rfl) ?_
    intro x20 s19 hx20
    replace hx20 := ev_bl_rng hx20
    show ev_w _ _ _ _ _ [.int (Int32.ofInt x20)] _ _ _ _
    refine ev_r_jn (Q := fun K => ∀ (s25 : ev_St) (w21 : List (Nat × Value)), ev_lk w21 0 = some (.ref 3) → ev_lk w21 1 = some (ev_nv a0) → ev_lk w21 2 = some (.int (Int32.ofInt x4)) → ev_w none (ev_Mof 99) d 73 w21 [] s25 (K  s25) ev_eI ev_bl) ?_ ?_
    · intro  s25 w21 e22 e23 e24
      refine ev_r_aload_n (pc := 73) (k := 1) (v := ev_nv a0) (ev_isR_nv _) (by decide +kernel) (by exact e23) ?_
      refine ev_r_iload_n (pc := 74) (k := 2) (v := Int32.ofInt x4) (by decide +kernel) (by exact e24) ?_
      refine ev_r_chk ?_
      intro c26
      refine ev_r_dr (r := a0) (fun v => [.int (Int32.ofInt x4), v]) c26 ?_
      refine ev_r_putI (pc := 75) (y := 240) (ci := 4) (f := 5) hx4 (by decide +kernel) (by decide +kernel) (by exact (ha0.resolve_left c26)) rfl rfl ?_
      intro s27
      refine ev_r_aload_n (pc := 78) (k := 1) (v := ev_nv a0) (ev_isR_nv _) (by decide +kernel) (by exact e23) ?_
      refine ev_r_iconst (pc := 79) (k := -1) (by decide +kernel) ?_
      refine ev_r_chk ?_
      intro c28
      refine ev_r_dr (r := a0) (fun v => [.int (Int32.ofInt ((-1))), v]) c28 ?_
      refine ev_r_putI (pc := 80) (y := 195) (ci := 4) (f := 6) (by decide) (by decide +kernel) (by decide +kernel) (by exact (ha0.resolve_left c28)) rfl rfl ?_
      intro s29
      refine ev_r_aload_n (pc := 83) (k := 1) (v := ev_nv a0) (ev_isR_nv _) (by decide +kernel) (by exact e23) ?_
      refine ev_r_iconst (pc := 84) (k := -1) (by decide +kernel) ?_
      refine ev_r_chk ?_
      intro c30
      refine ev_r_dr (r := a0) (fun v => [.int (Int32.ofInt ((-1))), v]) c30 ?_
      refine ev_r_putI (pc := 85) (y := 189) (ci := 4) (f := 7) (by decide) (by decide +kernel) (by decide +kernel) (by exact (ha0.resolve_left c30)) rfl rfl ?_
      intro s31
      refine ev_r_aload_n (pc := 88) (k := 1) (v := ev_nv a0) (ev_isR_nv _) (by decide +kernel) (by exact e23) ?_
      refine ev_r_iconst (pc := 89) (k := -1) (by decide +kernel) ?_
      refine ev_r_chk ?_
      intro c32
      refine ev_r_dr (r := a0) (fun v => [.int (Int32.ofInt ((-1))), v]) c32 ?_
      refine ev_r_putI (pc := 90) (y := 198) (ci := 4) (f := 8) (by decide) (by decide +kernel) (by decide +kernel) (by exact (ha0.resolve_left c32)) rfl rfl ?_
      intro s33
      refine ev_r_aload_n (pc := 93) (k := 0) (v := .ref 3) trivial (by decide +kernel) (by exact e22) ?_
      refine ev_r_iconst (pc := 94) (k := 0) (by decide +kernel) ?_
      refine ev_r_putI (pc := 95) (y := 165) (ci := 7) (f := 13) (by decide) (by decide +kernel) (by decide +kernel) (by exact ev_ob_3) rfl (ev_fit_bl (by decide : ev_bl 0)) ?_
      intro s34
      refine ev_r_iconst (pc := 98) (k := 1) (by decide +kernel) ?_
      exact ev_r_ireturn (pc := 99) (x := 1) (v := Int32.ofInt 1) (ty := .boolean) (by decide : ev_bl 1) (by decide +kernel) (by decide +kernel) (ev_ret_bl (by decide : ev_bl 1)) rfl
    · intro K73 hK73
      refine ev_r_if (pc := 49) (q := .eq) (o := 19) (t := 68) (c := x20 = 0) (by decide +kernel) (ev_k_eq hx20 ev_rng0) (by decide +kernel) ?_ ?_
      · intro c35
        refine ev_r_aload_n (pc := 68) (k := 1) (v := ev_nv a0) (ev_isR_nv _) (by decide +kernel) (by exact (ev_lk_st1 (by rfl) (by decide) (ev_nv_cat _))) ?_
        refine ev_r_iload_n (pc := 69) (k := 2) (v := Int32.ofInt x4) (by decide +kernel) (by exact ev_lk_st1_self) ?_
        refine ev_r_chk ?_
        intro c36
        refine ev_r_dr (r := a0) (fun v => [.int (Int32.ofInt x4), v]) c36 ?_
        refine ev_r_putI (pc := 70) (y := 237) (ci := 4) (f := 4) hx4 (by decide +kernel) (by decide +kernel) (by exact (ha0.resolve_left c36)) rfl rfl ?_
        intro s37
        exact hK73  s37 _ (by exact (ev_l1 (by rfl) (by decide) (by decide))) (by exact (ev_lk_st1 (by rfl) (by decide) (ev_nv_cat _))) (by exact ev_lk_st1_self)
      · intro c35
        refine ev_r_aload_n (pc := 52) (k := 0) (v := .ref 3) trivial (by decide +kernel) (by exact (ev_l1 (by rfl) (by decide) (by decide))) ?_
        refine ev_r_getR (pc := 53) (y := 55) (ci := 7) (f := 9) (fin := 0) (t := 5) (by decide +kernel) (by decide +kernel) (by exact ev_ob_3) rfl rfl ?_
        intro r38 hr38
        have hr38 : r38 = 0 ∨ ev_isOb (r38 - 1) 5 = true := hr38
        refine ev_r_chk ?_
        intro c39
        refine ev_r_dr (r := r38) (fun v => [v]) c39 ?_
        refine ev_r_getC (pc := 56) (y := 192) (ci := 5) (f := 4) (fin := 2) (k' := ((r38 - 1) + 5)) (by decide +kernel) (by decide +kernel) (by exact (hr38.resolve_left c39)) rfl rfl ?_
        refine ev_r_aload_n (pc := 59) (k := 1) (v := ev_nv a0) (ev_isR_nv _) (by decide +kernel) (by exact (ev_lk_st1 (by rfl) (by decide) (ev_nv_cat _))) ?_
        refine ev_r_chk ?_
        intro c40
        refine ev_r_dr (r := a0) (fun v => [v, .ref (((r38 - 1) + 5))]) c40 ?_
        refine ev_r_getI (pc := 60) (y := 240) (ci := 4) (f := 5) (fin := 0) (by decide +kernel) (by decide +kernel) (by exact (ha0.resolve_left c40)) rfl ?_
        intro x41 hx41
        refine ev_r_iload_n (pc := 63) (k := 2) (v := Int32.ofInt x4) (by decide +kernel) (by exact ev_lk_st1_self) ?_
        refine ev_r_iast (pc := 64) hx4 hx41 (by decide +kernel) (by exact (ev_fo_5_4 (hr38.resolve_left c39))) ?_
        intro s42
        refine ev_r_goto (pc := 65) (o := 8) (t := 73) (by decide +kernel) (by decide +kernel) ?_
        exact hK73  s42 _ (by exact (ev_l1 (by rfl) (by decide) (by decide))) (by exact (ev_lk_st1 (by rfl) (by decide) (ev_nv_cat _))) (by exact ev_lk_st1_self)
  · intro c9
    refine ev_r_iconst (pc := 23) (k := 0) (by decide +kernel) ?_
    exact ev_r_ireturn (pc := 24) (x := 0) (v := Int32.ofInt 0) (ty := .boolean) (by decide : ev_bl 0) (by decide +kernel) (by decide +kernel) (ev_ret_bl (by decide : ev_bl 0)) rfl
/-- MendBench$Reader.addItem(I)Z -/
def jm_91 (Q : Nat) (a0 : Int) (S : ev_St) : Option ((Int) × ev_St) := ev_b (S.2.2.1 3 9) fun r1 => ev_if (r1 ≠ 0) (ev_bd (jm_59 Q ((r1 - 1)) a0 S) fun x4 s3 => if x4 = 0 then (some (0, s3)) else (ev_b (s3.1 3 10) fun x6 => if x6 < 0 then (some (0, s3)) else (ev_b (s3.1 3 10) fun x8 => if x8 < 152 then (ev_b (s3.1 3 10) fun x10 => ev_if ((0 : Int) ≤ x10 ∧ x10 < (152 : Int)) (ev_b (17 + 1 * Int.toNat x10) fun _ => ev_b (s3.2.2.1 3 9) fun r13 => ev_b (s3.1 ((17 + 1 * Int.toNat x10)) 7) fun x14 => ev_if (r13 ≠ 0) (ev_bd (jm_59 Q ((r13 - 1)) x14 s3) fun x17 s16 => ev_jn (fun (r18 : Nat) (s22 : ev_St) => ev_b (s22.1 r18 7) fun x23 => ev_b (ev_pI s22 r18 8 x23) fun s24 => ev_b (ev_pI s24 r18 7 a0) fun s25 => some (1, s25)) fun K77 => if x17 = 0 then (ev_b (ev_pI s16 ((17 + 1 * Int.toNat x10)) 6 a0) fun s27 => K77 ((17 + 1 * Int.toNat x10)) s27) else (ev_b (s16.2.2.1 3 9) fun r28 => ev_if (r28 ≠ 0) (ev_b (s16.1 ((17 + 1 * Int.toNat x10)) 7) fun x30 => ev_if ((0 : Int) ≤ x30 ∧ x30 < (ev_aln (((r28 - 1) + 5)) : Int)) (ev_b (ev_pI s16 (((r28 - 1) + 5)) (Int.toNat x30) a0) fun s31 => K77 ((17 + 1 * Int.toNat x10)) s31)))))) else (some (0, s3)))))
theorem jt_91 (d : Nat) (hd : 2 ≤ d) (Q : Nat) (a0 : Int) (ha0 : ev_rng a0) (S : ev_St) (x : Int) (S' : ev_St) (hJ : jm_91 Q a0 S = some (x, S')) : ev_Ref d 91 [.ref 3, .int (Int32.ofInt a0)] S (ev_eI x) S' (ev_bl x) := by
  obtain ⟨d, rfl⟩ : ∃ e, d = e + 1 := ⟨d - 1, by omega⟩
  refine ev_ref_of (P := ev_bl) (lv := [(0, .ref 3), (1, .int (Int32.ofInt a0))]) (by decide +kernel) (by (try simp only [ev_sum, ev_nv_cat]); first | done | rfl) (by (try simp only [lv_args, ev_nv_cat]); first | done | rfl) ?_ x S' hJ
  unfold jm_91
  refine ev_r_aload_n (pc := 0) (k := 0) (v := .ref 3) trivial (by decide +kernel) (by rfl) ?_
  refine ev_r_getR (pc := 1) (y := 55) (ci := 7) (f := 9) (fin := 0) (t := 5) (by decide +kernel) (by decide +kernel) (by exact ev_ob_3) rfl rfl ?_
  intro r1 hr1
  have hr1 : r1 = 0 ∨ ev_isOb (r1 - 1) 5 = true := hr1
  refine ev_r_iload_n (pc := 4) (k := 1) (v := Int32.ofInt a0) (by decide +kernel) (by rfl) ?_
  refine ev_r_chk ?_
  intro c2
  refine ev_r_dr (r := r1) (fun v => [.int (Int32.ofInt a0), v]) c2 ?_
  refine ev_r_virt (pc := 5) (y := 179) (mi := 59) (na := 1) (k := (r1 - 1)) (as := [.int (Int32.ofInt a0)]) (rest := []) (encc := ev_oI) (Q := ev_bl) (fun x S1 h => jt_59 d (by omega) Q ((r1 - 1)) a0 (hr1.resolve_left c2) ha0 S x S1 h) (by exact (hr1.resolve_left c2)) (by decide +kernel) (by decide +kernel) (by decide +kernel) (by decide +kernel) rfl (by (try simp only [ev_sum, ev_nv_cat]); first | done | rfl) ?_
  intro x4 s3 hx4
  replace hx4 := ev_bl_rng hx4
  show ev_w _ _ _ _ _ [.int (Int32.ofInt x4)] _ _ _ _
  refine ev_r_if (pc := 8) (q := .eq) (o := 22) (t := 30) (c := x4 = 0) (by decide +kernel) (ev_k_eq hx4 ev_rng0) (by decide +kernel) ?_ ?_
  · intro c5
    refine ev_r_iconst (pc := 30) (k := 0) (by decide +kernel) ?_
    exact ev_r_ireturn (pc := 31) (x := 0) (v := Int32.ofInt 0) (ty := .boolean) (by decide : ev_bl 0) (by decide +kernel) (by decide +kernel) (ev_ret_bl (by decide : ev_bl 0)) rfl
  · intro c5
    refine ev_r_aload_n (pc := 11) (k := 0) (v := .ref 3) trivial (by decide +kernel) (by rfl) ?_
    refine ev_r_getI (pc := 12) (y := 69) (ci := 7) (f := 10) (fin := 0) (by decide +kernel) (by decide +kernel) (by exact ev_ob_3) rfl ?_
    intro x6 hx6
    refine ev_r_if (pc := 15) (q := .lt) (o := 15) (t := 30) (c := x6 < 0) (by decide +kernel) (ev_k_lt hx6 ev_rng0) (by decide +kernel) ?_ ?_
    · intro c7
      refine ev_r_iconst (pc := 30) (k := 0) (by decide +kernel) ?_
      exact ev_r_ireturn (pc := 31) (x := 0) (v := Int32.ofInt 0) (ty := .boolean) (by decide : ev_bl 0) (by decide +kernel) (by decide +kernel) (ev_ret_bl (by decide : ev_bl 0)) rfl
    · intro c7
      refine ev_r_aload_n (pc := 18) (k := 0) (v := .ref 3) trivial (by decide +kernel) (by rfl) ?_
      refine ev_r_getI (pc := 19) (y := 69) (ci := 7) (f := 10) (fin := 0) (by decide +kernel) (by decide +kernel) (by exact ev_ob_3) rfl ?_
      intro x8 hx8
      refine ev_r_aload_n (pc := 22) (k := 0) (v := .ref 3) trivial (by decide +kernel) (by rfl) ?_
      refine ev_r_getC (pc := 23) (y := 30) (ci := 7) (f := 3) (fin := 1) (k' := 14) (by decide +kernel) (by decide +kernel) (by exact ev_ob_3) rfl rfl ?_
      refine ev_r_alenC (pc := 26) (kd := 3) (N := 152) (t := (.object "MendBench$Open", 17, 1)) (Or.inl rfl) (by decide +kernel) (by decide +kernel) ?_
      refine ev_r_icmp (pc := 27) (q := .lt) (o := 5) (t := 32) (c := x8 < 152) (by decide +kernel) (ev_k_lt hx8 (by decide)) (by decide +kernel) ?_ ?_
      · intro c9
        refine ev_r_aload_n (pc := 32) (k := 0) (v := .ref 3) trivial (by decide +kernel) (by rfl) ?_
        refine ev_r_getC (pc := 33) (y := 30) (ci := 7) (f := 3) (fin := 1) (k' := 14) (by decide +kernel) (by decide +kernel) (by exact ev_ob_3) rfl rfl ?_
        refine ev_r_aload_n (pc := 36) (k := 0) (v := .ref 3) trivial (by decide +kernel) (by rfl) ?_
        refine ev_r_getI (pc := 37) (y := 69) (ci := 7) (f := 10) (fin := 0) (by decide +kernel) (by decide +kernel) (by exact ev_ob_3) rfl ?_
        intro x10 hx10
        refine ev_r_aald (pc := 40) (N := 152) (b := 17) (c := 1) (C := "MendBench$Open") hx10 (by decide +kernel) (by decide +kernel) ?_
        intro c11
        refine ev_r_astore_n (pc := 41) (k := 2) trivial (by decide +kernel) (by decide +kernel) rfl ?_
        refine ev_r_aload_n (pc := 42) (k := 0) (v := .ref 3) trivial (by decide +kernel) (by exact (ev_l1 (by rfl) (by decide) (by decide))) ?_
        refine ev_r_getR (pc := 43) (y := 55) (ci := 7) (f := 9) (fin := 0) (t := 5) (by decide +kernel) (by decide +kernel) (by exact ev_ob_3) rfl rfl ?_
        intro r13 hr13
        have hr13 : r13 = 0 ∨ ev_isOb (r13 - 1) 5 = true := hr13
        refine ev_r_aload_n (pc := 46) (k := 2) (v := .ref ((17 + 1 * Int.toNat x10))) trivial (by decide +kernel) (by exact ev_lk_st1_self) ?_
        refine ev_r_getI (pc := 47) (y := 189) (ci := 4) (f := 7) (fin := 0) (by decide +kernel) (by decide +kernel) (by exact (ev_el_14 c11)) rfl ?_
        intro x14 hx14
        refine ev_r_chk ?_
        intro c15
        refine ev_r_dr (r := r13) (fun v => [.int (Int32.ofInt x14), v]) c15 ?_
        refine ev_r_virt (pc := 50) (y := 179) (mi := 59) (na := 1) (k := (r13 - 1)) (as := [.int (Int32.ofInt x14)]) (rest := []) (encc := ev_oI) (Q := ev_bl) (fun x S1 h => jt_59 d (by omega) Q ((r13 - 1)) x14 (hr13.resolve_left c15) hx14 s3 x S1 h) (by exact (hr13.resolve_left c15)) (by decide +kernel) (by decide +kernel) (by decide +kernel) (by decide +kernel) rfl (by (try simp only [ev_sum, ev_nv_cat]); first | done | rfl) ?_
        intro x17 s16 hx17
        replace hx17 := ev_bl_rng hx17
        show ev_w _ _ _ _ _ [.int (Int32.ofInt x17)] _ _ _ _
        refine ev_r_jn (Q := fun K => ∀ (r18 : Nat) (hr18 : ev_isOb r18 4 = true), ∀ (s22 : ev_St) (w19 : List (Nat × Value)), ev_lk w19 1 = some (.int (Int32.ofInt a0)) → ev_lk w19 2 = some (.ref r18) → ev_w none (ev_Mof 91) d 77 w19 [] s22 (K r18 s22) ev_eI ev_bl) ?_ ?_
        · intro r18 hr18 s22 w19 e20 e21
          refine ev_r_aload_n (pc := 77) (k := 2) (v := .ref r18) trivial (by decide +kernel) (by exact e21) ?_
          refine ev_r_aload_n (pc := 78) (k := 2) (v := .ref r18) trivial (by decide +kernel) (by exact e21) ?_
          refine ev_r_getI (pc := 79) (y := 189) (ci := 4) (f := 7) (fin := 0) (by decide +kernel) (by decide +kernel) (by exact hr18) rfl ?_
          intro x23 hx23
          refine ev_r_putI (pc := 82) (y := 198) (ci := 4) (f := 8) hx23 (by decide +kernel) (by decide +kernel) (by exact hr18) rfl rfl ?_
          intro s24
          refine ev_r_aload_n (pc := 85) (k := 2) (v := .ref r18) trivial (by decide +kernel) (by exact e21) ?_
          refine ev_r_iload_n (pc := 86) (k := 1) (v := Int32.ofInt a0) (by decide +kernel) (by exact e20) ?_
          refine ev_r_putI (pc := 87) (y := 189) (ci := 4) (f := 7) ha0 (by decide +kernel) (by decide +kernel) (by exact hr18) rfl rfl ?_
          intro s25
          refine ev_r_iconst (pc := 90) (k := 1) (by decide +kernel) ?_
          exact ev_r_ireturn (pc := 91) (x := 1) (v := Int32.ofInt 1) (ty := .boolean) (by decide : ev_bl 1) (by decide +kernel) (by decide +kernel) (ev_ret_bl (by decide : ev_bl 1)) rfl
        · intro K77 hK77
          refine ev_r_if (pc := 53) (q := .eq) (o := 19) (t := 72) (c := x17 = 0) (by decide +kernel) (ev_k_eq hx17 ev_rng0) (by decide +kernel) ?_ ?_
          · intro c26
            refine ev_r_aload_n (pc := 72) (k := 2) (v := .ref ((17 + 1 * Int.toNat x10))) trivial (by decide +kernel) (by exact ev_lk_st1_self) ?_
            refine ev_r_iload_n (pc := 73) (k := 1) (v := Int32.ofInt a0) (by decide +kernel) (by exact (ev_lk_st1 (by rfl) (by decide) rfl)) ?_
            refine ev_r_putI (pc := 74) (y := 195) (ci := 4) (f := 6) ha0 (by decide +kernel) (by decide +kernel) (by exact (ev_el_14 c11)) rfl rfl ?_
            intro s27
            exact hK77 ((17 + 1 * Int.toNat x10)) (ev_el_14 c11) s27 _ (by exact (ev_lk_st1 (by rfl) (by decide) rfl)) (by exact ev_lk_st1_self)
          · intro c26
            refine ev_r_aload_n (pc := 56) (k := 0) (v := .ref 3) trivial (by decide +kernel) (by exact (ev_l1 (by rfl) (by decide) (by decide))) ?_
            refine ev_r_getR (pc := 57) (y := 55) (ci := 7) (f := 9) (fin := 0) (t := 5) (by decide +kernel) (by decide +kernel) (by exact ev_ob_3) rfl rfl ?_
            intro r28 hr28
            have hr28 : r28 = 0 ∨ ev_isOb (r28 - 1) 5 = true := hr28
            refine ev_r_chk ?_
            intro c29
            refine ev_r_dr (r := r28) (fun v => [v]) c29 ?_
            refine ev_r_getC (pc := 60) (y := 192) (ci := 5) (f := 4) (fin := 2) (k' := ((r28 - 1) + 5)) (by decide +kernel) (by decide +kernel) (by exact (hr28.resolve_left c29)) rfl rfl ?_
            refine ev_r_aload_n (pc := 63) (k := 2) (v := .ref ((17 + 1 * Int.toNat x10))) trivial (by decide +kernel) (by exact ev_lk_st1_self) ?_
            refine ev_r_getI (pc := 64) (y := 189) (ci := 4) (f := 7) (fin := 0) (by decide +kernel) (by decide +kernel) (by exact (ev_el_14 c11)) rfl ?_
            intro x30 hx30
            refine ev_r_iload_n (pc := 67) (k := 1) (v := Int32.ofInt a0) (by decide +kernel) (by exact (ev_lk_st1 (by rfl) (by decide) rfl)) ?_
            refine ev_r_iast (pc := 68) ha0 hx30 (by decide +kernel) (by exact (ev_fo_5_4 (hr28.resolve_left c29))) ?_
            intro s31
            refine ev_r_goto (pc := 69) (o := 8) (t := 77) (by decide +kernel) (by decide +kernel) ?_
            exact hK77 ((17 + 1 * Int.toNat x10)) (ev_el_14 c11) s31 _ (by exact (ev_lk_st1 (by rfl) (by decide) rfl)) (by exact ev_lk_st1_self)
      · intro c9
        refine ev_r_iconst (pc := 30) (k := 0) (by decide +kernel) ?_
        exact ev_r_ireturn (pc := 31) (x := 0) (v := Int32.ofInt 0) (ty := .boolean) (by decide : ev_bl 0) (by decide +kernel) (by decide +kernel) (ev_ret_bl (by decide : ev_bl 0)) rfl
/-- MendBench$Reader.end()Z -/
def jm_100 (Q : Nat)  (S : ev_St) : Option ((Int) × ev_St) := ev_b (S.1 3 10) fun x1 => if x1 < 0 then (some (0, S)) else (ev_b (S.1 3 10) fun x3 => if x3 < 152 then (ev_b (S.1 3 10) fun x5 => ev_if ((0 : Int) ≤ x5 ∧ x5 < (152 : Int)) (ev_b (17 + 1 * Int.toNat x5) fun _ => ev_bd (jm_99 Q (((17 + 1 * Int.toNat x5) + 1)) S) fun x9 s8 => ev_jn (fun (r10 : Nat) (x11 : Int) (s15 : ev_St) => ev_b (s15.2.2.1 3 9) fun r16 => ev_if (r16 ≠ 0) (ev_bd (jm_59 Q ((r16 - 1)) x11 s15) fun x19 s18 => if x19 ≠ 0 then (ev_b (s18.2.2.1 3 9) fun r21 => ev_if (r21 ≠ 0) (ev_b (s18.1 r10 4) fun x23 => ev_if ((0 : Int) ≤ x11 ∧ x11 < (ev_aln (((r21 - 1) + 4)) : Int)) (ev_b (ev_pI s18 (((r21 - 1) + 4)) (Int.toNat x11) x23) fun s24 => ev_b (s24.1 r10 0) fun x25 => ev_jn (fun (x26 : Int) (s31 : ev_St) => ev_jn (fun  (s36 : ev_St) => ev_b (s36.1 r10 2) fun x37 => ev_b (ev_pI s36 3 11 x37) fun s38 => ev_b (s38.1 3 10) fun x39 => ev_ck (x39 - 1) fun x40 => ev_b (ev_pI s38 3 10 x40) fun s41 => ev_b (ev_pI s41 3 13 1) fun s42 => ev_b (s42.1 3 10) fun x43 => if x43 < 0 then (some (1, s42)) else (ev_bd (jm_91 Q x11 s42) fun x46 s45 => if x46 = 0 then (some (0, s45)) else (some (1, s45)))) fun K143 => if x26 = 0 then (K143  s31) else (ev_b (s31.1 r10 1) fun x49 => if x49 < 0 then (K143  s31) else (ev_b (s31.1 r10 1) fun x51 => if 9 < x51 then (K143  s31) else (ev_b (s31.2.2.1 3 9) fun r53 => ev_if (r53 ≠ 0) (ev_b (s31.1 r10 1) fun x55 => ev_if ((0 : Int) ≤ x55 ∧ x55 < (ev_aln (((r53 - 1) + 10)) : Int)) (ev_b (ev_pI s31 (((r53 - 1) + 10)) (Int.toNat x55) x11) fun s56 => K143  s56)))))) fun K109 => ev_jn (fun  (s61 : ev_St) => K109 1 s61) fun K104 => if x25 = 18 then (K104  s24) else (ev_b (s24.1 r10 0) fun x63 => if x63 ≠ 16 then (K109 0 s24) else (K104  s24))))) else (some (0, s18)))) fun K59 => if x9 = 0 then (K59 ((17 + 1 * Int.toNat x5)) ((-1)) s8) else (ev_b (s8.2.2.1 3 9) fun r66 => ev_b (s8.1 ((17 + 1 * Int.toNat x5)) 0) fun x67 => ev_b (s8.1 ((17 + 1 * Int.toNat x5)) 1) fun x68 => ev_if (r66 ≠ 0) (ev_bd (jm_58 Q ((r66 - 1)) x67 x68 0 s8) fun x71 s70 => K59 ((17 + 1 * Int.toNat x5)) x71 s70)))) else (some (0, S)))
theorem jt_100 (d : Nat) (hd : 3 ≤ d) (Q : Nat)   (S : ev_St) (x : Int) (S' : ev_St) (hJ : jm_100 Q  S = some (x, S')) : ev_Ref d 100 [.ref 3] S (ev_eI x) S' (ev_bl x) := by
  obtain ⟨d, rfl⟩ : ∃ e, d = e + 1 := ⟨d - 1, by omega⟩
  refine ev_ref_of (P := ev_bl) (lv := [(0, .ref 3)]) (by decide +kernel) (by (try simp only [ev_sum, ev_nv_cat]); first | done | rfl) (by (try simp only [lv_args, ev_nv_cat]); first | done | rfl) ?_ x S' hJ
  unfold jm_100
  refine ev_r_aload_n (pc := 0) (k := 0) (v := .ref 3) trivial (by decide +kernel) (by rfl) ?_
  refine ev_r_getI (pc := 1) (y := 69) (ci := 7) (f := 10) (fin := 0) (by decide +kernel) (by decide +kernel) (by exact ev_ob_3) rfl ?_
  intro x1 hx1
  refine ev_r_if (pc := 4) (q := .lt) (o := 15) (t := 19) (c := x1 < 0) (by decide +kernel) (ev_k_lt hx1 ev_rng0) (by decide +kernel) ?_ ?_
  · intro c2
    refine ev_r_iconst (pc := 19) (k := 0) (by decide +kernel) ?_
    exact ev_r_ireturn (pc := 20) (x := 0) (v := Int32.ofInt 0) (ty := .boolean) (by decide : ev_bl 0) (by decide +kernel) (by decide +kernel) (ev_ret_bl (by decide : ev_bl 0)) rfl
  · intro c2
    refine ev_r_aload_n (pc := 7) (k := 0) (v := .ref 3) trivial (by decide +kernel) (by rfl) ?_
    refine ev_r_getI (pc := 8) (y := 69) (ci := 7) (f := 10) (fin := 0) (by decide +kernel) (by decide +kernel) (by exact ev_ob_3) rfl ?_
    intro x3 hx3
    refine ev_r_aload_n (pc := 11) (k := 0) (v := .ref 3) trivial (by decide +kernel) (by rfl) ?_
    refine ev_r_getC (pc := 12) (y := 30) (ci := 7) (f := 3) (fin := 1) (k' := 14) (by decide +kernel) (by decide +kernel) (by exact ev_ob_3) rfl rfl ?_
    refine ev_r_alenC (pc := 15) (kd := 3) (N := 152) (t := (.object "MendBench$Open", 17, 1)) (Or.inl rfl) (by decide +kernel) (by decide +kernel) ?_
    refine ev_r_icmp (pc := 16) (q := .lt) (o := 5) (t := 21) (c := x3 < 152) (by decide +kernel) (ev_k_lt hx3 (by decide)) (by decide +kernel) ?_ ?_
    · intro c4
      refine ev_r_aload_n (pc := 21) (k := 0) (v := .ref 3) trivial (by decide +kernel) (by rfl) ?_
      refine ev_r_getC (pc := 22) (y := 30) (ci := 7) (f := 3) (fin := 1) (k' := 14) (by decide +kernel) (by decide +kernel) (by exact ev_ob_3) rfl rfl ?_
      refine ev_r_aload_n (pc := 25) (k := 0) (v := .ref 3) trivial (by decide +kernel) (by rfl) ?_
      refine ev_r_getI (pc := 26) (y := 69) (ci := 7) (f := 10) (fin := 0) (by decide +kernel) (by decide +kernel) (by exact ev_ob_3) rfl ?_
      intro x5 hx5
      refine ev_r_aald (pc := 29) (N := 152) (b := 17) (c := 1) (C := "MendBench$Open") hx5 (by decide +kernel) (by decide +kernel) ?_
      intro c6
      refine ev_r_astore_n (pc := 30) (k := 1) trivial (by decide +kernel) (by decide +kernel) rfl ?_
      refine ev_r_aload_n (pc := 31) (k := 0) (v := .ref 3) trivial (by decide +kernel) (by exact (ev_lk_st1 (by rfl) (by decide) rfl)) ?_
      refine ev_r_aload_n (pc := 32) (k := 1) (v := .ref ((17 + 1 * Int.toNat x5))) trivial (by decide +kernel) (by exact ev_lk_st1_self) ?_
      refine ev_r_virt (pc := 33) (y := 243) (mi := 99) (na := 1) (k := 3) (as := [ev_nv (((17 + 1 * Int.toNat x5) + 1))]) (rest := []) (encc := ev_oI) (Q := ev_bl) (fun x S1 h => jt_99 d (by omega) Q (((17 + 1 * Int.toNat x5) + 1)) (by exact (Or.inr (ev_el_14 c6))) S x S1 h) (by exact ev_ob_3) (by decide +kernel) (by decide +kernel) (by decide +kernel) (by decide +kernel) rfl (by (try simp only [ev_sum, ev_nv_cat]); first | done | rfl) ?_
      intro x9 s8 hx9
      replace hx9 := ev_bl_rng hx9
      show ev_w _ _ _ _ _ [.int (Int32.ofInt x9)] _ _ _ _
      refine ev_r_jn (Q := fun K => ∀ (r10 : Nat) (hr10 : ev_isOb r10 4 = true), ∀ (x11 : Int) (hx11 : ev_rng x11), ∀ (s15 : ev_St) (w12 : List (Nat × Value)), ev_lk w12 0 = some (.ref 3) → ev_lk w12 1 = some (.ref r10) → ev_w none (ev_Mof 100) d 59 w12 [.int (Int32.ofInt x11)] s15 (K r10 x11 s15) ev_eI ev_bl) ?_ ?_
      · intro r10 hr10 x11 hx11 s15 w12 e13 e14
        refine ev_r_istore_n (pc := 59) (k := 2) (by decide +kernel) (by decide +kernel) rfl ?_
        refine ev_r_aload_n (pc := 60) (k := 0) (v := .ref 3) trivial (by decide +kernel) (by exact (ev_l1 e13 (by decide) (by decide))) ?_
        refine ev_r_getR (pc := 61) (y := 55) (ci := 7) (f := 9) (fin := 0) (t := 5) (by decide +kernel) (by decide +kernel) (by exact ev_ob_3) rfl rfl ?_
        intro r16 hr16
        have hr16 : r16 = 0 ∨ ev_isOb (r16 - 1) 5 = true := hr16
        refine ev_r_iload_n (pc := 64) (k := 2) (v := Int32.ofInt x11) (by decide +kernel) (by exact ev_lk_st1_self) ?_
        refine ev_r_chk ?_
        intro c17
        refine ev_r_dr (r := r16) (fun v => [.int (Int32.ofInt x11), v]) c17 ?_
        refine ev_r_virt (pc := 65) (y := 179) (mi := 59) (na := 1) (k := (r16 - 1)) (as := [.int (Int32.ofInt x11)]) (rest := []) (encc := ev_oI) (Q := ev_bl) (fun x S1 h => jt_59 d (by omega) Q ((r16 - 1)) x11 (hr16.resolve_left c17) hx11 s15 x S1 h) (by exact (hr16.resolve_left c17)) (by decide +kernel) (by decide +kernel) (by decide +kernel) (by decide +kernel) rfl (by (try simp only [ev_sum, ev_nv_cat]); first | done | rfl) ?_
        intro x19 s18 hx19
        replace hx19 := ev_bl_rng hx19
        show ev_w _ _ _ _ _ [.int (Int32.ofInt x19)] _ _ _ _
        refine ev_r_if (pc := 68) (q := .ne) (o := 5) (t := 73) (c := x19 ≠ 0) (by decide +kernel) (ev_k_ne hx19 ev_rng0) (by decide +kernel) ?_ ?_
        · intro c20
          refine ev_r_aload_n (pc := 73) (k := 0) (v := .ref 3) trivial (by decide +kernel) (by exact (ev_l1 e13 (by decide) (by decide))) ?_
          refine ev_r_getR (pc := 74) (y := 55) (ci := 7) (f := 9) (fin := 0) (t := 5) (by decide +kernel) (by decide +kernel) (by exact ev_ob_3) rfl rfl ?_
          intro r21 hr21
          have hr21 : r21 = 0 ∨ ev_isOb (r21 - 1) 5 = true := hr21
          refine ev_r_chk ?_
          intro c22
          refine ev_r_dr (r := r21) (fun v => [v]) c22 ?_
          refine ev_r_getC (pc := 77) (y := 201) (ci := 5) (f := 3) (fin := 2) (k' := ((r21 - 1) + 4)) (by decide +kernel) (by decide +kernel) (by exact (hr21.resolve_left c22)) rfl rfl ?_
          refine ev_r_iload_n (pc := 80) (k := 2) (v := Int32.ofInt x11) (by decide +kernel) (by exact ev_lk_st1_self) ?_
          refine ev_r_aload_n (pc := 81) (k := 1) (v := .ref r10) trivial (by decide +kernel) (by exact (ev_lk_st1 e14 (by decide) rfl)) ?_
          refine ev_r_getI (pc := 82) (y := 237) (ci := 4) (f := 4) (fin := 0) (by decide +kernel) (by decide +kernel) (by exact hr10) rfl ?_
          intro x23 hx23
          refine ev_r_iast (pc := 85) hx23 hx11 (by decide +kernel) (by exact (ev_fo_5_3 (hr21.resolve_left c22))) ?_
          intro s24
          refine ev_r_aload_n (pc := 86) (k := 1) (v := .ref r10) trivial (by decide +kernel) (by exact (ev_lk_st1 e14 (by decide) rfl)) ?_
          refine ev_r_getI (pc := 87) (y := 230) (ci := 4) (f := 0) (fin := 0) (by decide +kernel) (by decide +kernel) (by exact hr10) rfl ?_
          intro x25 hx25
          refine ev_r_bipush (pc := 90) (k := 18) (by decide +kernel) (by decide +kernel) ?_
          refine ev_r_jn (Q := fun K => ∀ (x26 : Int) (hx26 : ev_rng x26), ∀ (s31 : ev_St) (w27 : List (Nat × Value)), ev_lk w27 0 = some (.ref 3) → ev_lk w27 1 = some (.ref r10) → ev_lk w27 2 = some (.int (Int32.ofInt x11)) → ev_w none (ev_Mof 100) d 109 w27 [.int (Int32.ofInt x26)] s31 (K x26 s31) ev_eI ev_bl) ?_ ?_
          · intro x26 hx26 s31 w27 e28 e29 e30
            refine ev_r_istore_n (pc := 109) (k := 3) (by decide +kernel) (by decide +kernel) rfl ?_
            refine ev_r_iload_n (pc := 110) (k := 3) (v := Int32.ofInt x26) (by decide +kernel) (by exact ev_lk_st1_self) ?_
            refine ev_r_jn (Q := fun K => ∀ (s36 : ev_St) (w32 : List (Nat × Value)), ev_lk w32 0 = some (.ref 3) → ev_lk w32 1 = some (.ref r10) → ev_lk w32 2 = some (.int (Int32.ofInt x11)) → ev_w none (ev_Mof 100) d 143 w32 [] s36 (K  s36) ev_eI ev_bl) ?_ ?_
            · intro  s36 w32 e33 e34 e35
              refine ev_r_aload_n (pc := 143) (k := 0) (v := .ref 3) trivial (by decide +kernel) (by exact e33) ?_
              refine ev_r_aload_n (pc := 144) (k := 1) (v := .ref r10) trivial (by decide +kernel) (by exact e34) ?_
              refine ev_r_getI (pc := 145) (y := 236) (ci := 4) (f := 2) (fin := 0) (by decide +kernel) (by decide +kernel) (by exact hr10) rfl ?_
              intro x37 hx37
              refine ev_r_putI (pc := 148) (y := 72) (ci := 7) (f := 11) hx37 (by decide +kernel) (by decide +kernel) (by exact ev_ob_3) rfl rfl ?_
              intro s38
              refine ev_r_aload_n (pc := 151) (k := 0) (v := .ref 3) trivial (by decide +kernel) (by exact e33) ?_
              refine ev_r_dup (pc := 152) rfl (by decide +kernel) ?_
              refine ev_r_getI (pc := 153) (y := 69) (ci := 7) (f := 10) (fin := 0) (by decide +kernel) (by decide +kernel) (by exact ev_ob_3) rfl ?_
              intro x39 hx39
              refine ev_r_iconst (pc := 156) (k := 1) (by decide +kernel) ?_
              refine ev_r_isub (pc := 157) (by decide +kernel) ?_
              intro x40 hx40
              refine ev_r_putI (pc := 158) (y := 69) (ci := 7) (f := 10) hx40 (by decide +kernel) (by decide +kernel) (by exact ev_ob_3) rfl rfl ?_
              intro s41
              refine ev_r_aload_n (pc := 161) (k := 0) (v := .ref 3) trivial (by decide +kernel) (by exact e33) ?_
              refine ev_r_iconst (pc := 162) (k := 1) (by decide +kernel) ?_
              refine ev_r_putI (pc := 163) (y := 165) (ci := 7) (f := 13) (by decide) (by decide +kernel) (by decide +kernel) (by exact ev_ob_3) rfl (ev_fit_bl (by decide : ev_bl 1)) ?_
              intro s42
              refine ev_r_aload_n (pc := 166) (k := 0) (v := .ref 3) trivial (by decide +kernel) (by exact e33) ?_
              refine ev_r_getI (pc := 167) (y := 69) (ci := 7) (f := 10) (fin := 0) (by decide +kernel) (by decide +kernel) (by exact ev_ob_3) rfl ?_
              intro x43 hx43
              refine ev_r_if (pc := 170) (q := .lt) (o := 11) (t := 181) (c := x43 < 0) (by decide +kernel) (ev_k_lt hx43 ev_rng0) (by decide +kernel) ?_ ?_
              · intro c44
                refine ev_r_iconst (pc := 181) (k := 1) (by decide +kernel) ?_
                refine ev_r_goto (pc := 182) (o := 4) (t := 186) (by decide +kernel) (by decide +kernel) ?_
                exact ev_r_ireturn (pc := 186) (x := 1) (v := Int32.ofInt 1) (ty := .boolean) (by decide : ev_bl 1) (by decide +kernel) (by decide +kernel) (ev_ret_bl (by decide : ev_bl 1)) rfl
              · intro c44
                refine ev_r_aload_n (pc := 173) (k := 0) (v := .ref 3) trivial (by decide +kernel) (by exact e33) ?_
                refine ev_r_iload_n (pc := 174) (k := 2) (v := Int32.ofInt x11) (by decide +kernel) (by exact e35) ?_
                refine ev_r_virt (pc := 175) (y := 172) (mi := 91) (na := 1) (k := 3) (as := [.int (Int32.ofInt x11)]) (rest := []) (encc := ev_oI) (Q := ev_bl) (fun x S1 h => jt_91 d (by omega) Q x11 hx11 s42 x S1 h) (by exact ev_ob_3) (by decide +kernel) (by decide +kernel) (by decide +kernel) (by decide +kernel) rfl (by (try simp only [ev_sum, ev_nv_cat]); first | done | rfl) ?_
                intro x46 s45 hx46
                replace hx46 := ev_bl_rng hx46
                show ev_w _ _ _ _ _ [.int (Int32.ofInt x46)] _ _ _ _
                refine ev_r_if (pc := 178) (q := .eq) (o := 7) (t := 185) (c := x46 = 0) (by decide +kernel) (ev_k_eq hx46 ev_rng0) (by decide +kernel) ?_ ?_
                · intro c47
                  refine ev_r_iconst (pc := 185) (k := 0) (by decide +kernel) ?_
                  exact ev_r_ireturn (pc := 186) (x := 0) (v := Int32.ofInt 0) (ty := .boolean) (by decide : ev_bl 0) (by decide +kernel) (by decide +kernel) (ev_ret_bl (by decide : ev_bl 0)) rfl
                · intro c47
                  refine ev_r_iconst (pc := 181) (k := 1) (by decide +kernel) ?_
                  refine ev_r_goto (pc := 182) (o := 4) (t := 186) (by decide +kernel) (by decide +kernel) ?_
                  exact ev_r_ireturn (pc := 186) (x := 1) (v := Int32.ofInt 1) (ty := .boolean) (by decide : ev_bl 1) (by decide +kernel) (by decide +kernel) (ev_ret_bl (by decide : ev_bl 1)) rfl
            · intro K143 hK143
              refine ev_r_if (pc := 111) (q := .eq) (o := 32) (t := 143) (c := x26 = 0) (by decide +kernel) (ev_k_eq hx26 ev_rng0) (by decide +kernel) ?_ ?_
              · intro c48
                exact hK143  s31 _ (by exact (ev_l1 e28 (by decide) (by decide))) (by exact (ev_l1 e29 (by decide) (by decide))) (by exact (ev_lk_st1 e30 (by decide) rfl))
              · intro c48
                refine ev_r_aload_n (pc := 114) (k := 1) (v := .ref r10) trivial (by decide +kernel) (by exact (ev_l1 e29 (by decide) (by decide))) ?_
                refine ev_r_getI (pc := 115) (y := 233) (ci := 4) (f := 1) (fin := 0) (by decide +kernel) (by decide +kernel) (by exact hr10) rfl ?_
                intro x49 hx49
                refine ev_r_if (pc := 118) (q := .lt) (o := 25) (t := 143) (c := x49 < 0) (by decide +kernel) (ev_k_lt hx49 ev_rng0) (by decide +kernel) ?_ ?_
                · intro c50
                  exact hK143  s31 _ (by exact (ev_l1 e28 (by decide) (by decide))) (by exact (ev_l1 e29 (by decide) (by decide))) (by exact (ev_lk_st1 e30 (by decide) rfl))
                · intro c50
                  refine ev_r_aload_n (pc := 121) (k := 1) (v := .ref r10) trivial (by decide +kernel) (by exact (ev_l1 e29 (by decide) (by decide))) ?_
                  refine ev_r_getI (pc := 122) (y := 233) (ci := 4) (f := 1) (fin := 0) (by decide +kernel) (by decide +kernel) (by exact hr10) rfl ?_
                  intro x51 hx51
                  refine ev_r_bipush (pc := 125) (k := 9) (by decide +kernel) (by decide +kernel) ?_
                  refine ev_r_icmp (pc := 127) (q := .gt) (o := 16) (t := 143) (c := 9 < x51) (by decide +kernel) (ev_k_gt hx51 (by decide)) (by decide +kernel) ?_ ?_
                  · intro c52
                    exact hK143  s31 _ (by exact (ev_l1 e28 (by decide) (by decide))) (by exact (ev_l1 e29 (by decide) (by decide))) (by exact (ev_lk_st1 e30 (by decide) rfl))
                  · intro c52
                    refine ev_r_aload_n (pc := 130) (k := 0) (v := .ref 3) trivial (by decide +kernel) (by exact (ev_l1 e28 (by decide) (by decide))) ?_
                    refine ev_r_getR (pc := 131) (y := 55) (ci := 7) (f := 9) (fin := 0) (t := 5) (by decide +kernel) (by decide +kernel) (by exact ev_ob_3) rfl rfl ?_
                    intro r53 hr53
                    have hr53 : r53 = 0 ∨ ev_isOb (r53 - 1) 5 = true := hr53
                    refine ev_r_chk ?_
                    intro c54
                    refine ev_r_dr (r := r53) (fun v => [v]) c54 ?_
                    refine ev_r_getC (pc := 134) (y := 247) (ci := 5) (f := 9) (fin := 2) (k' := ((r53 - 1) + 10)) (by decide +kernel) (by decide +kernel) (by exact (hr53.resolve_left c54)) rfl rfl ?_
                    refine ev_r_aload_n (pc := 137) (k := 1) (v := .ref r10) trivial (by decide +kernel) (by exact (ev_l1 e29 (by decide) (by decide))) ?_
                    refine ev_r_getI (pc := 138) (y := 233) (ci := 4) (f := 1) (fin := 0) (by decide +kernel) (by decide +kernel) (by exact hr10) rfl ?_
                    intro x55 hx55
                    refine ev_r_iload_n (pc := 141) (k := 2) (v := Int32.ofInt x11) (by decide +kernel) (by exact (ev_lk_st1 e30 (by decide) rfl)) ?_
                    refine ev_r_iast (pc := 142) hx11 hx55 (by decide +kernel) (by exact (ev_fo_5_9 (hr53.resolve_left c54))) ?_
                    intro s56
                    exact hK143  s56 _ (by exact (ev_l1 e28 (by decide) (by decide))) (by exact (ev_l1 e29 (by decide) (by decide))) (by exact (ev_lk_st1 e30 (by decide) rfl))
          · intro K109 hK109
            refine ev_r_jn (Q := fun K => ∀ (s61 : ev_St) (w57 : List (Nat × Value)), ev_lk w57 0 = some (.ref 3) → ev_lk w57 1 = some (.ref r10) → ev_lk w57 2 = some (.int (Int32.ofInt x11)) → ev_w none (ev_Mof 100) d 104 w57 [] s61 (K  s61) ev_eI ev_bl) ?_ ?_
            · intro  s61 w57 e58 e59 e60
              refine ev_r_iconst (pc := 104) (k := 1) (by decide +kernel) ?_
              refine ev_r_goto (pc := 105) (o := 4) (t := 109) (by decide +kernel) (by decide +kernel) ?_
              exact hK109 1 (by decide) s61 _ (by exact e58) (by exact e59) (by exact e60)
            · intro K104 hK104
              refine ev_r_icmp (pc := 92) (q := .eq) (o := 12) (t := 104) (c := x25 = 18) (by decide +kernel) (ev_k_eq hx25 (by decide)) (by decide +kernel) ?_ ?_
              · intro c62
                exact hK104  s24 _ (by exact (ev_l1 e13 (by decide) (by decide))) (by exact (ev_lk_st1 e14 (by decide) rfl)) (by exact ev_lk_st1_self)
              · intro c62
                refine ev_r_aload_n (pc := 95) (k := 1) (v := .ref r10) trivial (by decide +kernel) (by exact (ev_lk_st1 e14 (by decide) rfl)) ?_
                refine ev_r_getI (pc := 96) (y := 230) (ci := 4) (f := 0) (fin := 0) (by decide +kernel) (by decide +kernel) (by exact hr10) rfl ?_
                intro x63 hx63
                refine ev_r_bipush (pc := 99) (k := 16) (by decide +kernel) (by decide +kernel) ?_
                refine ev_r_icmp (pc := 101) (q := .ne) (o := 7) (t := 108) (c := x63 ≠ 16) (by decide +kernel) (ev_k_ne hx63 (by decide)) (by decide +kernel) ?_ ?_
                · intro c64
                  refine ev_r_iconst (pc := 108) (k := 0) (by decide +kernel) ?_
                  exact hK109 0 (by decide) s24 _ (by exact (ev_l1 e13 (by decide) (by decide))) (by exact (ev_lk_st1 e14 (by decide) rfl)) (by exact ev_lk_st1_self)
                · intro c64
                  exact hK104  s24 _ (by exact (ev_l1 e13 (by decide) (by decide))) (by exact (ev_lk_st1 e14 (by decide) rfl)) (by exact ev_lk_st1_self)
        · intro c20
          refine ev_r_iconst (pc := 71) (k := 0) (by decide +kernel) ?_
          exact ev_r_ireturn (pc := 72) (x := 0) (v := Int32.ofInt 0) (ty := .boolean) (by decide : ev_bl 0) (by decide +kernel) (by decide +kernel) (ev_ret_bl (by decide : ev_bl 0)) rfl
      · intro K59 hK59
        refine ev_r_if (pc := 36) (q := .eq) (o := 22) (t := 58) (c := x9 = 0) (by decide +kernel) (ev_k_eq hx9 ev_rng0) (by decide +kernel) ?_ ?_
        · intro c65
          refine ev_r_iconst (pc := 58) (k := -1) (by decide +kernel) ?_
          exact hK59 ((17 + 1 * Int.toNat x5)) (ev_el_14 c6) ((-1)) (by decide) s8 _ (by exact (ev_lk_st1 (by rfl) (by decide) rfl)) (by exact ev_lk_st1_self)
        · intro c65
          refine ev_r_aload_n (pc := 39) (k := 0) (v := .ref 3) trivial (by decide +kernel) (by exact (ev_lk_st1 (by rfl) (by decide) rfl)) ?_
          refine ev_r_getR (pc := 40) (y := 55) (ci := 7) (f := 9) (fin := 0) (t := 5) (by decide +kernel) (by decide +kernel) (by exact ev_ob_3) rfl rfl ?_
          intro r66 hr66
          have hr66 : r66 = 0 ∨ ev_isOb (r66 - 1) 5 = true := hr66
          refine ev_r_aload_n (pc := 43) (k := 1) (v := .ref ((17 + 1 * Int.toNat x5))) trivial (by decide +kernel) (by exact ev_lk_st1_self) ?_
          refine ev_r_getI (pc := 44) (y := 230) (ci := 4) (f := 0) (fin := 0) (by decide +kernel) (by decide +kernel) (by exact (ev_el_14 c6)) rfl ?_
          intro x67 hx67
          refine ev_r_aload_n (pc := 47) (k := 1) (v := .ref ((17 + 1 * Int.toNat x5))) trivial (by decide +kernel) (by exact ev_lk_st1_self) ?_
          refine ev_r_getI (pc := 48) (y := 233) (ci := 4) (f := 1) (fin := 0) (by decide +kernel) (by decide +kernel) (by exact (ev_el_14 c6)) rfl ?_
          intro x68 hx68
          refine ev_r_iconst (pc := 51) (k := 0) (by decide +kernel) ?_
          refine ev_r_chk ?_
          intro c69
          refine ev_r_dr (r := r66) (fun v => [.int (Int32.ofInt 0), .int (Int32.ofInt x68), .int (Int32.ofInt x67), v]) c69 ?_
          refine ev_r_virt (pc := 52) (y := 168) (mi := 58) (na := 3) (k := (r66 - 1)) (as := [.int (Int32.ofInt x67), .int (Int32.ofInt x68), .int (Int32.ofInt 0)]) (rest := []) (encc := ev_oI) (Q := ev_rng) (fun x S1 h => jt_58 d (by omega) Q ((r66 - 1)) x67 x68 0 (hr66.resolve_left c69) hx67 hx68 (by decide) s8 x S1 h) (by exact (hr66.resolve_left c69)) (by decide +kernel) (by decide +kernel) (by decide +kernel) (by decide +kernel) rfl (by (try simp only [ev_sum, ev_nv_cat]); first | done | rfl) ?_
          intro x71 s70 hx71
          show ev_w _ _ _ _ _ [.int (Int32.ofInt x71)] _ _ _ _
          refine ev_r_goto (pc := 55) (o := 4) (t := 59) (by decide +kernel) (by decide +kernel) ?_
          exact hK59 ((17 + 1 * Int.toNat x5)) (ev_el_14 c6) x71 hx71 s70 _ (by exact (ev_lk_st1 (by rfl) (by decide) rfl)) (by exact ev_lk_st1_self)
    · intro c4
      refine ev_r_iconst (pc := 19) (k := 0) (by decide +kernel) ?_
      exact ev_r_ireturn (pc := 20) (x := 0) (v := Int32.ofInt 0) (ty := .boolean) (by decide : ev_bl 0) (by decide +kernel) (by decide +kernel) (ev_ret_bl (by decide : ev_bl 0)) rfl
def jb_113_2 (Q : Nat)   (K2 : Int → ev_St → Option ((Int) × ev_St)) (x1 : Int) (s5 : ev_St) : Option ((Int) × ev_St) := ev_b (s5.2.2.1 3 9) fun r6 => ev_if (r6 ≠ 0) (ev_b (s5.1 ((r6 - 1)) 11) fun x8 => ev_jn (fun  (s11 : ev_St) => ev_b (s11.2.2.1 3 9) fun r12 => ev_if (r12 ≠ 0) (ev_bd (jm_67 Q ((r12 - 1)) s11) fun _ s14 => some (1, s14))) fun K158 => if x8 ≤ x1 then (K158  s5) else (if 400 ≤ x1 then (K158  s5) else (ev_b (s5.2.2.1 3 9) fun r17 => ev_if (r17 ≠ 0) (ev_if ((0 : Int) ≤ x1 ∧ x1 < (ev_aln (((r17 - 1) + 1)) : Int)) (ev_b (s5.1 (((r17 - 1) + 1)) (Int.toNat x1)) fun x19 => ev_jn (fun (x20 : Int) (s25 : ev_St) => ev_jn (fun (x26 : Int) (s30 : ev_St) => ev_jn (fun  (s34 : ev_St) => ev_ck (x1 + 1) fun x35 => K2 x35 s34) fun K152 => if x26 = 0 then (K152  s30) else (ev_b (s30.2.2.1 3 9) fun r37 => ev_if (r37 ≠ 0) (ev_if ((0 : Int) ≤ x1 ∧ x1 < (ev_aln (((r37 - 1) + 2)) : Int)) (ev_b (s30.1 (((r37 - 1) + 2)) (Int.toNat x1)) fun x39 => ev_b (s30.2.2.1 3 9) fun r40 => ev_if (r40 ≠ 0) (ev_b (s30.1 ((r40 - 1)) 12) fun x42 => if x39 ≤ x42 then (K152  s30) else (some (0, s30))))))) fun K126 => ev_jn (fun  (s47 : ev_St) => K126 1 s47) fun K121 => if x20 = 7 then (K121  s25) else (if x20 = 8 then (K121  s25) else (if x20 ≠ 9 then (K126 0 s25) else (K121  s25)))) fun K103 => if x19 ≠ 7 then (K103 x19 s5) else (ev_b (s5.2.2.1 3 9) fun r52 => ev_if (r52 ≠ 0) (ev_if ((0 : Int) ≤ x1 ∧ x1 < (ev_aln (((r52 - 1) + 2)) : Int)) (ev_b (s5.1 (((r52 - 1) + 2)) (Int.toNat x1)) fun x54 => if 0 ≤ x54 then (K103 x19 s5) else (ev_b (s5.2.2.1 3 9) fun r56 => ev_if (r56 ≠ 0) (ev_if ((0 : Int) ≤ x1 ∧ x1 < (ev_aln (((r56 - 1) + 2)) : Int)) (ev_b (s5.1 (((r56 - 1) + 2)) (Int.toNat x1)) fun x58 => ev_ck (-x58) fun x59 => ev_ck (x59 - 1) fun x60 => ev_b (s5.2.2.1 3 9) fun r61 => ev_if (r61 ≠ 0) (ev_jn (fun (x65 : Int) (x64 : Int) (r63 : Nat) (s70 : ev_St) => ev_if ((0 : Int) ≤ x64 ∧ x64 < (ev_aln r63 : Int)) (ev_b (ev_pI s70 r63 (Int.toNat x64) x65) fun s71 => ev_b (s71.2.2.1 3 9) fun r72 => ev_if (r72 ≠ 0) (ev_if ((0 : Int) ≤ x1 ∧ x1 < (ev_aln (((r72 - 1) + 2)) : Int)) (ev_b (s71.1 (((r72 - 1) + 2)) (Int.toNat x1)) fun x74 => if x74 ≠ 0 then (K103 x19 s71) else (some (0, s71)))))) fun K88 => if 26 ≤ x60 then (K88 0 x1 (((r61 - 1) + 2)) s5) else (ev_b (s5.2.2.1 3 9) fun r77 => ev_if (r77 ≠ 0) (ev_if ((0 : Int) ≤ x60 ∧ x60 < (ev_aln (((r77 - 1) + 11)) : Int)) (ev_b (s5.1 (((r77 - 1) + 11)) (Int.toNat x60)) fun x79 => K88 x79 x1 (((r61 - 1) + 2)) s5)))))))))))))))
def jl_113_2 (Q : Nat)   : Nat → Int → ev_St → Option ((Int) × ev_St)
  | 0 => fun _ _ => none
  | q + 1 => jb_113_2 Q   (jl_113_2 Q   q)
theorem jbt_113_2 (d : Nat) (hd : 4 ≤ d + 1) (Q : Nat)     (K2 : Int → ev_St → Option ((Int) × ev_St)) (hK2 : ∀ (x1 : Int) (hx1 : ev_rng x1), ∀ (s5 : ev_St) (w2 : List (Nat × Value)), ev_lk w2 0 = some (.ref 3) → ev_lk w2 1 = some (.int (Int32.ofInt x1)) → ev_w none (ev_Mof 113) d 2 w2 [] s5 (K2 x1 s5) ev_eI ev_bl) : ∀ (x1 : Int) (hx1 : ev_rng x1), ∀ (s5 : ev_St) (w2 : List (Nat × Value)), ev_lk w2 0 = some (.ref 3) → ev_lk w2 1 = some (.int (Int32.ofInt x1)) → ev_w none (ev_Mof 113) d 2 w2 [] s5 (jb_113_2 Q   K2 x1 s5) ev_eI ev_bl := by
  intro x1 hx1 s5 w2 e3 e4
  unfold jb_113_2
  refine ev_r_iload_n (pc := 2) (k := 1) (v := Int32.ofInt x1) (by decide +kernel) (by exact e4) ?_
  refine ev_r_aload_n (pc := 3) (k := 0) (v := .ref 3) trivial (by decide +kernel) (by exact e3) ?_
  refine ev_r_getR (pc := 4) (y := 55) (ci := 7) (f := 9) (fin := 0) (t := 5) (by decide +kernel) (by decide +kernel) (by exact ev_ob_3) rfl rfl ?_
  intro r6 hr6
  have hr6 : r6 = 0 ∨ ev_isOb (r6 - 1) 5 = true := hr6
  refine ev_r_chk ?_
  intro c7
  refine ev_r_dr (r := r6) (fun v => [v, .int (Int32.ofInt x1)]) c7 ?_
  refine ev_r_getI (pc := 7) (y := 283) (ci := 5) (f := 11) (fin := 0) (by decide +kernel) (by decide +kernel) (by exact (hr6.resolve_left c7)) rfl ?_
  intro x8 hx8
  refine ev_r_jn (Q := fun K => ∀ (s11 : ev_St) (w9 : List (Nat × Value)), ev_lk w9 0 = some (.ref 3) → ev_w none (ev_Mof 113) d 158 w9 [] s11 (K  s11) ev_eI ev_bl) ?_ ?_
  · intro  s11 w9 e10
    refine ev_r_aload_n (pc := 158) (k := 0) (v := .ref 3) trivial (by decide +kernel) (by exact e10) ?_
    refine ev_r_getR (pc := 159) (y := 55) (ci := 7) (f := 9) (fin := 0) (t := 5) (by decide +kernel) (by decide +kernel) (by exact ev_ob_3) rfl rfl ?_
    intro r12 hr12
    have hr12 : r12 = 0 ∨ ev_isOb (r12 - 1) 5 = true := hr12
    refine ev_r_chk ?_
    intro c13
    refine ev_r_dr (r := r12) (fun v => [v]) c13 ?_
    refine ev_r_virt (pc := 162) (y := 288) (mi := 67) (na := 0) (k := (r12 - 1)) (as := []) (rest := []) (encc := ev_oU) (Q := ev_PU) (fun x S1 h => jt_67 d (by omega) Q ((r12 - 1)) (hr12.resolve_left c13) s11 x S1 h) (by exact (hr12.resolve_left c13)) (by decide +kernel) (by decide +kernel) (by decide +kernel) (by decide +kernel) rfl (by (try simp only [ev_sum, ev_nv_cat]); first | done | rfl) ?_
    intro _ s14 _
    show ev_w _ _ _ _ _ [] _ _ _ _
    refine ev_r_iconst (pc := 165) (k := 1) (by decide +kernel) ?_
    exact ev_r_ireturn (pc := 166) (x := 1) (v := Int32.ofInt 1) (ty := .boolean) (by decide : ev_bl 1) (by decide +kernel) (by decide +kernel) (ev_ret_bl (by decide : ev_bl 1)) rfl
  · intro K158 hK158
    refine ev_r_icmp (pc := 10) (q := .ge) (o := 148) (t := 158) (c := x8 ≤ x1) (by decide +kernel) (ev_k_ge hx1 hx8) (by decide +kernel) ?_ ?_
    · intro c15
      exact hK158  s5 _ (by exact e3)
    · intro c15
      refine ev_r_iload_n (pc := 13) (k := 1) (v := Int32.ofInt x1) (by decide +kernel) (by exact e4) ?_
      refine ev_r_sipush (pc := 14) (k := 400) (by decide +kernel) (by decide +kernel) ?_
      refine ev_r_icmp (pc := 17) (q := .ge) (o := 141) (t := 158) (c := 400 ≤ x1) (by decide +kernel) (ev_k_ge hx1 (by decide)) (by decide +kernel) ?_ ?_
      · intro c16
        exact hK158  s5 _ (by exact e3)
      · intro c16
        refine ev_r_aload_n (pc := 20) (k := 0) (v := .ref 3) trivial (by decide +kernel) (by exact e3) ?_
        refine ev_r_getR (pc := 21) (y := 55) (ci := 7) (f := 9) (fin := 0) (t := 5) (by decide +kernel) (by decide +kernel) (by exact ev_ob_3) rfl rfl ?_
        intro r17 hr17
        have hr17 : r17 = 0 ∨ ev_isOb (r17 - 1) 5 = true := hr17
        refine ev_r_chk ?_
        intro c18
        refine ev_r_dr (r := r17) (fun v => [v]) c18 ?_
        refine ev_r_getC (pc := 24) (y := 284) (ci := 5) (f := 0) (fin := 2) (k' := ((r17 - 1) + 1)) (by decide +kernel) (by decide +kernel) (by exact (hr17.resolve_left c18)) rfl rfl ?_
        refine ev_r_iload_n (pc := 27) (k := 1) (v := Int32.ofInt x1) (by decide +kernel) (by exact e4) ?_
        refine ev_r_iald (pc := 28) hx1 (by decide +kernel) (by exact (ev_fo_5_0 (hr17.resolve_left c18))) ?_
        intro x19 hx19
        refine ev_r_istore_n (pc := 29) (k := 2) (by decide +kernel) (by decide +kernel) rfl ?_
        refine ev_r_iload_n (pc := 30) (k := 2) (v := Int32.ofInt x19) (by decide +kernel) (by exact ev_lk_st1_self) ?_
        refine ev_r_bipush (pc := 31) (k := 7) (by decide +kernel) (by decide +kernel) ?_
        refine ev_r_jn (Q := fun K => ∀ (x20 : Int) (hx20 : ev_rng x20), ∀ (s25 : ev_St) (w21 : List (Nat × Value)), ev_lk w21 0 = some (.ref 3) → ev_lk w21 1 = some (.int (Int32.ofInt x1)) → ev_lk w21 2 = some (.int (Int32.ofInt x20)) → ev_w none (ev_Mof 113) d 103 w21 [] s25 (K x20 s25) ev_eI ev_bl) ?_ ?_
        · intro x20 hx20 s25 w21 e22 e23 e24
          refine ev_r_iload_n (pc := 103) (k := 2) (v := Int32.ofInt x20) (by decide +kernel) (by exact e24) ?_
          refine ev_r_bipush (pc := 104) (k := 7) (by decide +kernel) (by decide +kernel) ?_
          refine ev_r_jn (Q := fun K => ∀ (x26 : Int) (hx26 : ev_rng x26), ∀ (s30 : ev_St) (w27 : List (Nat × Value)), ev_lk w27 0 = some (.ref 3) → ev_lk w27 1 = some (.int (Int32.ofInt x1)) → ev_w none (ev_Mof 113) d 126 w27 [.int (Int32.ofInt x26)] s30 (K x26 s30) ev_eI ev_bl) ?_ ?_
          · intro x26 hx26 s30 w27 e28 e29
            refine ev_r_istore_n (pc := 126) (k := 3) (by decide +kernel) (by decide +kernel) rfl ?_
            refine ev_r_iload_n (pc := 127) (k := 3) (v := Int32.ofInt x26) (by decide +kernel) (by exact ev_lk_st1_self) ?_
            refine ev_r_jn (Q := fun K => ∀ (s34 : ev_St) (w31 : List (Nat × Value)), ev_lk w31 0 = some (.ref 3) → ev_lk w31 1 = some (.int (Int32.ofInt x1)) → ev_w none (ev_Mof 113) d 152 w31 [] s34 (K  s34) ev_eI ev_bl) ?_ ?_
            · intro  s34 w31 e32 e33
              refine ev_r_iinc (pc := 152) (k := 1) (c := 1) (x := x1) (by decide +kernel) (by decide +kernel) (by exact e33) (fun _ => rfl) ?_
              intro x35 hx35
              refine ev_r_goto (pc := 155) (o := (-153)) (t := 2) (by decide +kernel) (by decide +kernel) ?_
              exact hK2 x35 hx35 s34 _ (by exact (ev_lk_st1 e32 (by decide) rfl)) (by exact ev_lk_st1_self)
            · intro K152 hK152
              refine ev_r_if (pc := 128) (q := .eq) (o := 24) (t := 152) (c := x26 = 0) (by decide +kernel) (ev_k_eq hx26 ev_rng0) (by decide +kernel) ?_ ?_
              · intro c36
                exact hK152  s30 _ (by exact (ev_l1 e28 (by decide) (by decide))) (by exact (ev_l1 e29 (by decide) (by decide)))
              · intro c36
                refine ev_r_aload_n (pc := 131) (k := 0) (v := .ref 3) trivial (by decide +kernel) (by exact (ev_l1 e28 (by decide) (by decide))) ?_
                refine ev_r_getR (pc := 132) (y := 55) (ci := 7) (f := 9) (fin := 0) (t := 5) (by decide +kernel) (by decide +kernel) (by exact ev_ob_3) rfl rfl ?_
                intro r37 hr37
                have hr37 : r37 = 0 ∨ ev_isOb (r37 - 1) 5 = true := hr37
                refine ev_r_chk ?_
                intro c38
                refine ev_r_dr (r := r37) (fun v => [v]) c38 ?_
                refine ev_r_getC (pc := 135) (y := 286) (ci := 5) (f := 1) (fin := 2) (k' := ((r37 - 1) + 2)) (by decide +kernel) (by decide +kernel) (by exact (hr37.resolve_left c38)) rfl rfl ?_
                refine ev_r_iload_n (pc := 138) (k := 1) (v := Int32.ofInt x1) (by decide +kernel) (by exact (ev_l1 e29 (by decide) (by decide))) ?_
                refine ev_r_iald (pc := 139) hx1 (by decide +kernel) (by exact (ev_fo_5_1 (hr37.resolve_left c38))) ?_
                intro x39 hx39
                refine ev_r_aload_n (pc := 140) (k := 0) (v := .ref 3) trivial (by decide +kernel) (by exact (ev_l1 e28 (by decide) (by decide))) ?_
                refine ev_r_getR (pc := 141) (y := 55) (ci := 7) (f := 9) (fin := 0) (t := 5) (by decide +kernel) (by decide +kernel) (by exact ev_ob_3) rfl rfl ?_
                intro r40 hr40
                have hr40 : r40 = 0 ∨ ev_isOb (r40 - 1) 5 = true := hr40
                refine ev_r_chk ?_
                intro c41
                refine ev_r_dr (r := r40) (fun v => [v, .int (Int32.ofInt x39)]) c41 ?_
                refine ev_r_getI (pc := 144) (y := 274) (ci := 5) (f := 12) (fin := 0) (by decide +kernel) (by decide +kernel) (by exact (hr40.resolve_left c41)) rfl ?_
                intro x42 hx42
                refine ev_r_icmp (pc := 147) (q := .le) (o := 5) (t := 152) (c := x39 ≤ x42) (by decide +kernel) (ev_k_le hx39 hx42) (by decide +kernel) ?_ ?_
                · intro c43
                  exact hK152  s30 _ (by exact (ev_l1 e28 (by decide) (by decide))) (by exact (ev_l1 e29 (by decide) (by decide)))
                · intro c43
                  refine ev_r_iconst (pc := 150) (k := 0) (by decide +kernel) ?_
                  exact ev_r_ireturn (pc := 151) (x := 0) (v := Int32.ofInt 0) (ty := .boolean) (by decide : ev_bl 0) (by decide +kernel) (by decide +kernel) (ev_ret_bl (by decide : ev_bl 0)) rfl
          · intro K126 hK126
            refine ev_r_jn (Q := fun K => ∀ (s47 : ev_St) (w44 : List (Nat × Value)), ev_lk w44 0 = some (.ref 3) → ev_lk w44 1 = some (.int (Int32.ofInt x1)) → ev_w none (ev_Mof 113) d 121 w44 [] s47 (K  s47) ev_eI ev_bl) ?_ ?_
            · intro  s47 w44 e45 e46
              refine ev_r_iconst (pc := 121) (k := 1) (by decide +kernel) ?_
              refine ev_r_goto (pc := 122) (o := 4) (t := 126) (by decide +kernel) (by decide +kernel) ?_
              exact hK126 1 (by decide) s47 _ (by exact e45) (by exact e46)
            · intro K121 hK121
              refine ev_r_icmp (pc := 106) (q := .eq) (o := 15) (t := 121) (c := x20 = 7) (by decide +kernel) (ev_k_eq hx20 (by decide)) (by decide +kernel) ?_ ?_
              · intro c48
                exact hK121  s25 _ (by exact e22) (by exact e23)
              · intro c48
                refine ev_r_iload_n (pc := 109) (k := 2) (v := Int32.ofInt x20) (by decide +kernel) (by exact e24) ?_
                refine ev_r_bipush (pc := 110) (k := 8) (by decide +kernel) (by decide +kernel) ?_
                refine ev_r_icmp (pc := 112) (q := .eq) (o := 9) (t := 121) (c := x20 = 8) (by decide +kernel) (ev_k_eq hx20 (by decide)) (by decide +kernel) ?_ ?_
                · intro c49
                  exact hK121  s25 _ (by exact e22) (by exact e23)
                · intro c49
                  refine ev_r_iload_n (pc := 115) (k := 2) (v := Int32.ofInt x20) (by decide +kernel) (by exact e24) ?_
                  refine ev_r_bipush (pc := 116) (k := 9) (by decide +kernel) (by decide +kernel) ?_
                  refine ev_r_icmp (pc := 118) (q := .ne) (o := 7) (t := 125) (c := x20 ≠ 9) (by decide +kernel) (ev_k_ne hx20 (by decide)) (by decide +kernel) ?_ ?_
                  · intro c50
                    refine ev_r_iconst (pc := 125) (k := 0) (by decide +kernel) ?_
                    exact hK126 0 (by decide) s25 _ (by exact e22) (by exact e23)
                  · intro c50
                    exact hK121  s25 _ (by exact e22) (by exact e23)
        · intro K103 hK103
          refine ev_r_icmp (pc := 33) (q := .ne) (o := 70) (t := 103) (c := x19 ≠ 7) (by decide +kernel) (ev_k_ne hx19 (by decide)) (by decide +kernel) ?_ ?_
          · intro c51
            exact hK103 x19 hx19 s5 _ (by exact (ev_l1 e3 (by decide) (by decide))) (by exact (ev_lk_st1 e4 (by decide) rfl)) (by exact ev_lk_st1_self)
          · intro c51
            refine ev_r_aload_n (pc := 36) (k := 0) (v := .ref 3) trivial (by decide +kernel) (by exact (ev_l1 e3 (by decide) (by decide))) ?_
            refine ev_r_getR (pc := 37) (y := 55) (ci := 7) (f := 9) (fin := 0) (t := 5) (by decide +kernel) (by decide +kernel) (by exact ev_ob_3) rfl rfl ?_
            intro r52 hr52
            have hr52 : r52 = 0 ∨ ev_isOb (r52 - 1) 5 = true := hr52
            refine ev_r_chk ?_
            intro c53
            refine ev_r_dr (r := r52) (fun v => [v]) c53 ?_
            refine ev_r_getC (pc := 40) (y := 286) (ci := 5) (f := 1) (fin := 2) (k' := ((r52 - 1) + 2)) (by decide +kernel) (by decide +kernel) (by exact (hr52.resolve_left c53)) rfl rfl ?_
            refine ev_r_iload_n (pc := 43) (k := 1) (v := Int32.ofInt x1) (by decide +kernel) (by exact (ev_lk_st1 e4 (by decide) rfl)) ?_
            refine ev_r_iald (pc := 44) hx1 (by decide +kernel) (by exact (ev_fo_5_1 (hr52.resolve_left c53))) ?_
            intro x54 hx54
            refine ev_r_if (pc := 45) (q := .ge) (o := 58) (t := 103) (c := 0 ≤ x54) (by decide +kernel) (ev_k_ge hx54 ev_rng0) (by decide +kernel) ?_ ?_
            · intro c55
              exact hK103 x19 hx19 s5 _ (by exact (ev_l1 e3 (by decide) (by decide))) (by exact (ev_lk_st1 e4 (by decide) rfl)) (by exact ev_lk_st1_self)
            · intro c55
              refine ev_r_aload_n (pc := 48) (k := 0) (v := .ref 3) trivial (by decide +kernel) (by exact (ev_l1 e3 (by decide) (by decide))) ?_
              refine ev_r_getR (pc := 49) (y := 55) (ci := 7) (f := 9) (fin := 0) (t := 5) (by decide +kernel) (by decide +kernel) (by exact ev_ob_3) rfl rfl ?_
              intro r56 hr56
              have hr56 : r56 = 0 ∨ ev_isOb (r56 - 1) 5 = true := hr56
              refine ev_r_chk ?_
              intro c57
              refine ev_r_dr (r := r56) (fun v => [v]) c57 ?_
              refine ev_r_getC (pc := 52) (y := 286) (ci := 5) (f := 1) (fin := 2) (k' := ((r56 - 1) + 2)) (by decide +kernel) (by decide +kernel) (by exact (hr56.resolve_left c57)) rfl rfl ?_
              refine ev_r_iload_n (pc := 55) (k := 1) (v := Int32.ofInt x1) (by decide +kernel) (by exact (ev_lk_st1 e4 (by decide) rfl)) ?_
              refine ev_r_iald (pc := 56) hx1 (by decide +kernel) (by exact (ev_fo_5_1 (hr56.resolve_left c57))) ?_
              intro x58 hx58
              refine ev_r_ineg (pc := 57) (by decide +kernel) ?_
              intro x59 hx59
              refine ev_r_iconst (pc := 58) (k := 1) (by decide +kernel) ?_
              refine ev_r_isub (pc := 59) (by decide +kernel) ?_
              intro x60 hx60
              refine ev_r_istore_n (pc := 60) (k := 3) (by decide +kernel) (by decide +kernel) rfl ?_
              refine ev_r_aload_n (pc := 61) (k := 0) (v := .ref 3) trivial (by decide +kernel) (by exact (ev_l1 (ev_l1 e3 (by decide) (by decide)) (by decide) (by decide))) ?_
              refine ev_r_getR (pc := 62) (y := 55) (ci := 7) (f := 9) (fin := 0) (t := 5) (by decide +kernel) (by decide +kernel) (by exact ev_ob_3) rfl rfl ?_
              intro r61 hr61
              have hr61 : r61 = 0 ∨ ev_isOb (r61 - 1) 5 = true := hr61
              refine ev_r_chk ?_
              intro c62
              refine ev_r_dr (r := r61) (fun v => [v]) c62 ?_
              refine ev_r_getC (pc := 65) (y := 286) (ci := 5) (f := 1) (fin := 2) (k' := ((r61 - 1) + 2)) (by decide +kernel) (by decide +kernel) (by exact (hr61.resolve_left c62)) rfl rfl ?_
              refine ev_r_iload_n (pc := 68) (k := 1) (v := Int32.ofInt x1) (by decide +kernel) (by exact (ev_l1 (ev_lk_st1 e4 (by decide) rfl) (by decide) (by decide))) ?_
              refine ev_r_iload_n (pc := 69) (k := 3) (v := Int32.ofInt x60) (by decide +kernel) (by exact ev_lk_st1_self) ?_
              refine ev_r_bipush (pc := 70) (k := 26) (by decide +kernel) (by decide +kernel) ?_
              refine ev_r_jn (Q := fun K => ∀ (x65 : Int) (hx65 : ev_rng x65), ∀ (x64 : Int) (hx64 : ev_rng x64), ∀ (r63 : Nat) (hr63 : ev_isAb r63 1 .int = true), ∀ (s70 : ev_St) (w66 : List (Nat × Value)), ev_lk w66 0 = some (.ref 3) → ev_lk w66 1 = some (.int (Int32.ofInt x1)) → ev_lk w66 2 = some (.int (Int32.ofInt x19)) → ev_w none (ev_Mof 113) d 88 w66 [.int (Int32.ofInt x65), .int (Int32.ofInt x64), .ref r63] s70 (K x65 x64 r63 s70) ev_eI ev_bl) ?_ ?_
              · intro x65 hx65 x64 hx64 r63 hr63 s70 w66 e67 e68 e69
                refine ev_r_iast (pc := 88) hx65 hx64 (by decide +kernel) (by exact hr63) ?_
                intro s71
                refine ev_r_aload_n (pc := 89) (k := 0) (v := .ref 3) trivial (by decide +kernel) (by exact e67) ?_
                refine ev_r_getR (pc := 90) (y := 55) (ci := 7) (f := 9) (fin := 0) (t := 5) (by decide +kernel) (by decide +kernel) (by exact ev_ob_3) rfl rfl ?_
                intro r72 hr72
                have hr72 : r72 = 0 ∨ ev_isOb (r72 - 1) 5 = true := hr72
                refine ev_r_chk ?_
                intro c73
                refine ev_r_dr (r := r72) (fun v => [v]) c73 ?_
                refine ev_r_getC (pc := 93) (y := 286) (ci := 5) (f := 1) (fin := 2) (k' := ((r72 - 1) + 2)) (by decide +kernel) (by decide +kernel) (by exact (hr72.resolve_left c73)) rfl rfl ?_
                refine ev_r_iload_n (pc := 96) (k := 1) (v := Int32.ofInt x1) (by decide +kernel) (by exact e68) ?_
                refine ev_r_iald (pc := 97) hx1 (by decide +kernel) (by exact (ev_fo_5_1 (hr72.resolve_left c73))) ?_
                intro x74 hx74
                refine ev_r_if (pc := 98) (q := .ne) (o := 5) (t := 103) (c := x74 ≠ 0) (by decide +kernel) (ev_k_ne hx74 ev_rng0) (by decide +kernel) ?_ ?_
                · intro c75
                  exact hK103 x19 hx19 s71 _ (by exact e67) (by exact e68) (by exact e69)
                · intro c75
                  refine ev_r_iconst (pc := 101) (k := 0) (by decide +kernel) ?_
                  exact ev_r_ireturn (pc := 102) (x := 0) (v := Int32.ofInt 0) (ty := .boolean) (by decide : ev_bl 0) (by decide +kernel) (by decide +kernel) (ev_ret_bl (by decide : ev_bl 0)) rfl
              · intro K88 hK88
                refine ev_r_icmp (pc := 72) (q := .ge) (o := 15) (t := 87) (c := 26 ≤ x60) (by decide +kernel) (ev_k_ge hx60 (by decide)) (by decide +kernel) ?_ ?_
                · intro c76
                  refine ev_r_iconst (pc := 87) (k := 0) (by decide +kernel) ?_
                  exact hK88 0 (by decide) x1 hx1 (((r61 - 1) + 2)) (ev_fo_5_1 (hr61.resolve_left c62)) s5 _ (by exact (ev_l1 (ev_l1 e3 (by decide) (by decide)) (by decide) (by decide))) (by exact (ev_l1 (ev_lk_st1 e4 (by decide) rfl) (by decide) (by decide))) (by exact (ev_lk_st1 ev_lk_st1_self (by decide) rfl))
                · intro c76
                  refine ev_r_aload_n (pc := 75) (k := 0) (v := .ref 3) trivial (by decide +kernel) (by exact (ev_l1 (ev_l1 e3 (by decide) (by decide)) (by decide) (by decide))) ?_
                  refine ev_r_getR (pc := 76) (y := 55) (ci := 7) (f := 9) (fin := 0) (t := 5) (by decide +kernel) (by decide +kernel) (by exact ev_ob_3) rfl rfl ?_
                  intro r77 hr77
                  have hr77 : r77 = 0 ∨ ev_isOb (r77 - 1) 5 = true := hr77
                  refine ev_r_chk ?_
                  intro c78
                  refine ev_r_dr (r := r77) (fun v => [v, .int (Int32.ofInt x1), .ref (((r61 - 1) + 2))]) c78 ?_
                  refine ev_r_getC (pc := 79) (y := 277) (ci := 5) (f := 10) (fin := 2) (k' := ((r77 - 1) + 11)) (by decide +kernel) (by decide +kernel) (by exact (hr77.resolve_left c78)) rfl rfl ?_
                  refine ev_r_iload_n (pc := 82) (k := 3) (v := Int32.ofInt x60) (by decide +kernel) (by exact ev_lk_st1_self) ?_
                  refine ev_r_iald (pc := 83) hx60 (by decide +kernel) (by exact (ev_fo_5_10 (hr77.resolve_left c78))) ?_
                  intro x79 hx79
                  refine ev_r_goto (pc := 84) (o := 4) (t := 88) (by decide +kernel) (by decide +kernel) ?_
                  exact hK88 x79 hx79 x1 hx1 (((r61 - 1) + 2)) (ev_fo_5_1 (hr61.resolve_left c62)) s5 _ (by exact (ev_l1 (ev_l1 e3 (by decide) (by decide)) (by decide) (by decide))) (by exact (ev_l1 (ev_lk_st1 e4 (by decide) rfl) (by decide) (by decide))) (by exact (ev_lk_st1 ev_lk_st1_self (by decide) rfl))
theorem jlt_113_2 (d : Nat) (hd : 4 ≤ d + 1) (Q : Nat)     : ∀ q : Nat, ∀ (x1 : Int) (hx1 : ev_rng x1), ∀ (s5 : ev_St) (w2 : List (Nat × Value)), ev_lk w2 0 = some (.ref 3) → ev_lk w2 1 = some (.int (Int32.ofInt x1)) → ev_w none (ev_Mof 113) d 2 w2 [] s5 (jl_113_2 Q   q x1 s5) ev_eI ev_bl := by
  intro q
  induction q with
  | zero =>
    intro x1 hx1 s5 w2 e3 e4
    exact ev_w_none
  | succ q ih => exact jbt_113_2 d hd Q     _ ih
/-- MendBench$Reader.resolve()Z -/
def jm_113 (Q : Nat)  (S : ev_St) : Option ((Int) × ev_St) := jl_113_2 Q   Q 0 S
theorem jt_113 (d : Nat) (hd : 4 ≤ d) (Q : Nat)   (S : ev_St) (x : Int) (S' : ev_St) (hJ : jm_113 Q  S = some (x, S')) : ev_Ref d 113 [.ref 3] S (ev_eI x) S' (ev_bl x) := by
  obtain ⟨d, rfl⟩ : ∃ e, d = e + 1 := ⟨d - 1, by omega⟩
  refine ev_ref_of (P := ev_bl) (lv := [(0, .ref 3)]) (by decide +kernel) (by (try simp only [ev_sum, ev_nv_cat]); first | done | rfl) (by (try simp only [lv_args, ev_nv_cat]); first | done | rfl) ?_ x S' hJ
  unfold jm_113
  refine ev_r_iconst (pc := 0) (k := 0) (by decide +kernel) ?_
  refine ev_r_istore_n (pc := 1) (k := 1) (by decide +kernel) (by decide +kernel) rfl ?_
  exact jlt_113_2 d hd Q     Q 0 (by decide) S _ (by exact (ev_lk_st1 (by rfl) (by decide) rfl)) (by exact ev_lk_st1_self)
/-- MendBench$Reader.endText()Z -/
def jm_112 (Q : Nat)  (S : ev_St) : Option ((Int) × ev_St) := ev_b (S.1 3 10) fun x1 => if x1 < 0 then (some (0, S)) else (ev_b (S.1 3 10) fun x3 => if 152 ≤ x3 then (some (0, S)) else (ev_b (S.1 3 10) fun x5 => ev_if ((0 : Int) ≤ x5 ∧ x5 < (152 : Int)) (ev_b (17 + 1 * Int.toNat x5) fun _ => ev_b (S.1 ((17 + 1 * Int.toNat x5)) 3) fun x8 => if x8 = 0 then (some (0, S)) else (ev_bd (jm_100 Q  S) fun x11 s10 => if x11 ≠ 0 then (ev_b (s10.1 3 6) fun x13 => ev_ck (x13 - 1) fun x14 => ev_b (ev_pI s10 3 6 x14) fun s15 => ev_b (s15.1 3 6) fun x16 => ev_jn (fun (r17 : Nat) (s20 : ev_St) => if r17 = 0 then (some (0, s20)) else (ev_b (ev_pR s20 3 7 r17) fun s22 => ev_b (s22.1 3 6) fun x23 => ev_if ((0 : Int) ≤ x23 ∧ x23 < (ev_aln 16 : Int)) (ev_b (s22.1 16 (Int.toNat x23)) fun x24 => ev_b (ev_pI s22 3 8 x24) fun s25 => some (1, s25)))) fun K82 => ev_jn (fun  (s28 : ev_St) => K82 0 s28) fun K81 => if x16 < 0 then (K81  s15) else (ev_b (s15.1 3 6) fun x30 => if 28 ≤ x30 then (K81  s15) else (ev_b (s15.1 3 6) fun x32 => ev_if ((0 : Int) ≤ x32 ∧ x32 < (28 : Int)) (ev_b (s15.2.2.1 15 (Int.toNat x32)) fun r33 => K82 r33 s15)))) else (some (0, s10))))))
theorem jt_112 (d : Nat) (hd : 4 ≤ d) (Q : Nat)   (S : ev_St) (x : Int) (S' : ev_St) (hJ : jm_112 Q  S = some (x, S')) : ev_Ref d 112 [.ref 3] S (ev_eI x) S' (ev_bl x) := by
  obtain ⟨d, rfl⟩ : ∃ e, d = e + 1 := ⟨d - 1, by omega⟩
  refine ev_ref_of (P := ev_bl) (lv := [(0, .ref 3)]) (by decide +kernel) (by (try simp only [ev_sum, ev_nv_cat]); first | done | rfl) (by (try simp only [lv_args, ev_nv_cat]); first | done | rfl) ?_ x S' hJ
  unfold jm_112
  refine ev_r_aload_n (pc := 0) (k := 0) (v := .ref 3) trivial (by decide +kernel) (by rfl) ?_
  refine ev_r_getI (pc := 1) (y := 69) (ci := 7) (f := 10) (fin := 0) (by decide +kernel) (by decide +kernel) (by exact ev_ob_3) rfl ?_
  intro x1 hx1
  refine ev_r_if (pc := 4) (q := .lt) (o := 37) (t := 41) (c := x1 < 0) (by decide +kernel) (ev_k_lt hx1 ev_rng0) (by decide +kernel) ?_ ?_
  · intro c2
    refine ev_r_iconst (pc := 41) (k := 0) (by decide +kernel) ?_
    exact ev_r_ireturn (pc := 42) (x := 0) (v := Int32.ofInt 0) (ty := .boolean) (by decide : ev_bl 0) (by decide +kernel) (by decide +kernel) (ev_ret_bl (by decide : ev_bl 0)) rfl
  · intro c2
    refine ev_r_aload_n (pc := 7) (k := 0) (v := .ref 3) trivial (by decide +kernel) (by rfl) ?_
    refine ev_r_getI (pc := 8) (y := 69) (ci := 7) (f := 10) (fin := 0) (by decide +kernel) (by decide +kernel) (by exact ev_ob_3) rfl ?_
    intro x3 hx3
    refine ev_r_aload_n (pc := 11) (k := 0) (v := .ref 3) trivial (by decide +kernel) (by rfl) ?_
    refine ev_r_getC (pc := 12) (y := 30) (ci := 7) (f := 3) (fin := 1) (k' := 14) (by decide +kernel) (by decide +kernel) (by exact ev_ob_3) rfl rfl ?_
    refine ev_r_alenC (pc := 15) (kd := 3) (N := 152) (t := (.object "MendBench$Open", 17, 1)) (Or.inl rfl) (by decide +kernel) (by decide +kernel) ?_
    refine ev_r_icmp (pc := 16) (q := .ge) (o := 25) (t := 41) (c := 152 ≤ x3) (by decide +kernel) (ev_k_ge hx3 (by decide)) (by decide +kernel) ?_ ?_
    · intro c4
      refine ev_r_iconst (pc := 41) (k := 0) (by decide +kernel) ?_
      exact ev_r_ireturn (pc := 42) (x := 0) (v := Int32.ofInt 0) (ty := .boolean) (by decide : ev_bl 0) (by decide +kernel) (by decide +kernel) (ev_ret_bl (by decide : ev_bl 0)) rfl
    · intro c4
      refine ev_r_aload_n (pc := 19) (k := 0) (v := .ref 3) trivial (by decide +kernel) (by rfl) ?_
      refine ev_r_getC (pc := 20) (y := 30) (ci := 7) (f := 3) (fin := 1) (k' := 14) (by decide +kernel) (by decide +kernel) (by exact ev_ob_3) rfl rfl ?_
      refine ev_r_aload_n (pc := 23) (k := 0) (v := .ref 3) trivial (by decide +kernel) (by rfl) ?_
      refine ev_r_getI (pc := 24) (y := 69) (ci := 7) (f := 10) (fin := 0) (by decide +kernel) (by decide +kernel) (by exact ev_ob_3) rfl ?_
      intro x5 hx5
      refine ev_r_aald (pc := 27) (N := 152) (b := 17) (c := 1) (C := "MendBench$Open") hx5 (by decide +kernel) (by decide +kernel) ?_
      intro c6
      refine ev_r_getI (pc := 28) (y := 114) (ci := 4) (f := 3) (fin := 0) (by decide +kernel) (by decide +kernel) (by exact (ev_el_14 c6)) rfl ?_
      intro x8 hx8
      refine ev_r_if (pc := 31) (q := .eq) (o := 10) (t := 41) (c := x8 = 0) (by decide +kernel) (ev_k_eq hx8 ev_rng0) (by decide +kernel) ?_ ?_
      · intro c9
        refine ev_r_iconst (pc := 41) (k := 0) (by decide +kernel) ?_
        exact ev_r_ireturn (pc := 42) (x := 0) (v := Int32.ofInt 0) (ty := .boolean) (by decide : ev_bl 0) (by decide +kernel) (by decide +kernel) (ev_ret_bl (by decide : ev_bl 0)) rfl
      · intro c9
        refine ev_r_aload_n (pc := 34) (k := 0) (v := .ref 3) trivial (by decide +kernel) (by rfl) ?_
        refine ev_r_virt (pc := 35) (y := 91) (mi := 100) (na := 0) (k := 3) (as := []) (rest := []) (encc := ev_oI) (Q := ev_bl) (fun x S1 h => jt_100 d (by omega) Q   S x S1 h) (by exact ev_ob_3) (by decide +kernel) (by decide +kernel) (by decide +kernel) (by decide +kernel) rfl (by (try simp only [ev_sum, ev_nv_cat]); first | done | rfl) ?_
        intro x11 s10 hx11
        replace hx11 := ev_bl_rng hx11
        show ev_w _ _ _ _ _ [.int (Int32.ofInt x11)] _ _ _ _
        refine ev_r_if (pc := 38) (q := .ne) (o := 5) (t := 43) (c := x11 ≠ 0) (by decide +kernel) (ev_k_ne hx11 ev_rng0) (by decide +kernel) ?_ ?_
        · intro c12
          refine ev_r_aload_n (pc := 43) (k := 0) (v := .ref 3) trivial (by decide +kernel) (by rfl) ?_
          refine ev_r_dup (pc := 44) rfl (by decide +kernel) ?_
          refine ev_r_getI (pc := 45) (y := 66) (ci := 7) (f := 6) (fin := 0) (by decide +kernel) (by decide +kernel) (by exact ev_ob_3) rfl ?_
          intro x13 hx13
          refine ev_r_iconst (pc := 48) (k := 1) (by decide +kernel) ?_
          refine ev_r_isub (pc := 49) (by decide +kernel) ?_
          intro x14 hx14
          refine ev_r_putI (pc := 50) (y := 66) (ci := 7) (f := 6) hx14 (by decide +kernel) (by decide +kernel) (by exact ev_ob_3) rfl rfl ?_
          intro s15
          refine ev_r_aload_n (pc := 53) (k := 0) (v := .ref 3) trivial (by decide +kernel) (by rfl) ?_
          refine ev_r_getI (pc := 54) (y := 66) (ci := 7) (f := 6) (fin := 0) (by decide +kernel) (by decide +kernel) (by exact ev_ob_3) rfl ?_
          intro x16 hx16
          refine ev_r_jn (Q := fun K => ∀ (r17 : Nat) (hr17 : r17 = 0 ∨ ev_isOb (r17 - 1) 10 = true), ∀ (s20 : ev_St) (w18 : List (Nat × Value)), ev_lk w18 0 = some (.ref 3) → ev_w none (ev_Mof 112) d 82 w18 [ev_nv r17] s20 (K r17 s20) ev_eI ev_bl) ?_ ?_
          · intro r17 hr17 s20 w18 e19
            refine ev_r_astore_n (pc := 82) (k := 1) (ev_isR_nv _) (by decide +kernel) (by decide +kernel) rfl ?_
            refine ev_r_aload_n (pc := 83) (k := 1) (v := ev_nv r17) (ev_isR_nv _) (by decide +kernel) (by exact ev_lk_st1_self) ?_
            refine ev_r_ifnonnull (pc := 84) (r := r17) (o := 5) (t := 89) (by decide +kernel) (by decide +kernel) ?_ ?_
            · intro c21
              refine ev_r_aload_n (pc := 89) (k := 0) (v := .ref 3) trivial (by decide +kernel) (by exact (ev_lk_st1 e19 (by decide) rfl)) ?_
              refine ev_r_aload_n (pc := 90) (k := 1) (v := ev_nv r17) (ev_isR_nv _) (by decide +kernel) (by exact ev_lk_st1_self) ?_
              refine ev_r_putR (pc := 91) (y := 51) (ci := 7) (f := 7) (r := r17) (t := 10) (by exact hr17) (by decide +kernel) (by decide +kernel) (by exact ev_ob_3) rfl rfl (by cases r17 <;> rfl) ?_
              intro s22
              refine ev_r_aload_n (pc := 94) (k := 0) (v := .ref 3) trivial (by decide +kernel) (by exact (ev_lk_st1 e19 (by decide) rfl)) ?_
              refine ev_r_aload_n (pc := 95) (k := 0) (v := .ref 3) trivial (by decide +kernel) (by exact (ev_lk_st1 e19 (by decide) rfl)) ?_
              refine ev_r_getC (pc := 96) (y := 37) (ci := 7) (f := 5) (fin := 1) (k' := 16) (by decide +kernel) (by decide +kernel) (by exact ev_ob_3) rfl rfl ?_
              refine ev_r_aload_n (pc := 99) (k := 0) (v := .ref 3) trivial (by decide +kernel) (by exact (ev_lk_st1 e19 (by decide) rfl)) ?_
              refine ev_r_getI (pc := 100) (y := 66) (ci := 7) (f := 6) (fin := 0) (by decide +kernel) (by decide +kernel) (by exact ev_ob_3) rfl ?_
              intro x23 hx23
              refine ev_r_iald (pc := 103) hx23 (by decide +kernel) (by exact ev_ab_16) ?_
              intro x24 hx24
              refine ev_r_putI (pc := 104) (y := 63) (ci := 7) (f := 8) hx24 (by decide +kernel) (by decide +kernel) (by exact ev_ob_3) rfl rfl ?_
              intro s25
              refine ev_r_iconst (pc := 107) (k := 1) (by decide +kernel) ?_
              exact ev_r_ireturn (pc := 108) (x := 1) (v := Int32.ofInt 1) (ty := .boolean) (by decide : ev_bl 1) (by decide +kernel) (by decide +kernel) (ev_ret_bl (by decide : ev_bl 1)) rfl
            · intro c21
              refine ev_r_iconst (pc := 87) (k := 0) (by decide +kernel) ?_
              exact ev_r_ireturn (pc := 88) (x := 0) (v := Int32.ofInt 0) (ty := .boolean) (by decide : ev_bl 0) (by decide +kernel) (by decide +kernel) (ev_ret_bl (by decide : ev_bl 0)) rfl
          · intro K82 hK82
            refine ev_r_jn (Q := fun K => ∀ (s28 : ev_St) (w26 : List (Nat × Value)), ev_lk w26 0 = some (.ref 3) → ev_w none (ev_Mof 112) d 81 w26 [] s28 (K  s28) ev_eI ev_bl) ?_ ?_
            · intro  s28 w26 e27
              refine ev_r_null (pc := 81) (by decide +kernel) ?_
              exact hK82 0 (Or.inl rfl) s28 _ (by exact e27)
            · intro K81 hK81
              refine ev_r_if (pc := 57) (q := .lt) (o := 24) (t := 81) (c := x16 < 0) (by decide +kernel) (ev_k_lt hx16 ev_rng0) (by decide +kernel) ?_ ?_
              · intro c29
                exact hK81  s15 _ (by rfl)
              · intro c29
                refine ev_r_aload_n (pc := 60) (k := 0) (v := .ref 3) trivial (by decide +kernel) (by rfl) ?_
                refine ev_r_getI (pc := 61) (y := 66) (ci := 7) (f := 6) (fin := 0) (by decide +kernel) (by decide +kernel) (by exact ev_ob_3) rfl ?_
                intro x30 hx30
                refine ev_r_bipush (pc := 64) (k := 28) (by decide +kernel) (by decide +kernel) ?_
                refine ev_r_icmp (pc := 66) (q := .ge) (o := 15) (t := 81) (c := 28 ≤ x30) (by decide +kernel) (ev_k_ge hx30 (by decide)) (by decide +kernel) ?_ ?_
                · intro c31
                  exact hK81  s15 _ (by rfl)
                · intro c31
                  refine ev_r_aload_n (pc := 69) (k := 0) (v := .ref 3) trivial (by decide +kernel) (by rfl) ?_
                  refine ev_r_getC (pc := 70) (y := 34) (ci := 7) (f := 4) (fin := 1) (k' := 15) (by decide +kernel) (by decide +kernel) (by exact ev_ob_3) rfl rfl ?_
                  refine ev_r_aload_n (pc := 73) (k := 0) (v := .ref 3) trivial (by decide +kernel) (by rfl) ?_
                  refine ev_r_getI (pc := 74) (y := 66) (ci := 7) (f := 6) (fin := 0) (by decide +kernel) (by decide +kernel) (by exact ev_ob_3) rfl ?_
                  intro x32 hx32
                  refine ev_r_ald15 (pc := 77) hx32 (by decide +kernel) ?_
                  intro r33 hr33
                  refine ev_r_goto (pc := 78) (o := 4) (t := 82) (by decide +kernel) (by decide +kernel) ?_
                  exact hK82 r33 hr33 s15 _ (by rfl)
        · intro c12
          refine ev_r_iconst (pc := 41) (k := 0) (by decide +kernel) ?_
          exact ev_r_ireturn (pc := 42) (x := 0) (v := Int32.ofInt 0) (ty := .boolean) (by decide : ev_bl 0) (by decide +kernel) (by decide +kernel) (ev_ret_bl (by decide : ev_bl 0)) rfl
/-- MendBench$Reader.peek(I)I -/
def jm_84 (Q : Nat) (a0 : Int) (S : ev_St) : Option ((Int) × ev_St) := ev_b (S.2.2.1 3 7) fun r1 => ev_b (S.1 3 8) fun x2 => ev_ck (x2 + a0) fun x3 => ev_if (r1 ≠ 0) (ev_bd (jm_151 Q ((r1 - 1)) x3 S) fun x6 s5 => some (x6, s5))
theorem jt_84 (d : Nat) (hd : 2 ≤ d) (Q : Nat) (a0 : Int) (ha0 : ev_rng a0) (S : ev_St) (x : Int) (S' : ev_St) (hJ : jm_84 Q a0 S = some (x, S')) : ev_Ref d 84 [.ref 3, .int (Int32.ofInt a0)] S (ev_eI x) S' (ev_rng x) := by
  obtain ⟨d, rfl⟩ : ∃ e, d = e + 1 := ⟨d - 1, by omega⟩
  refine ev_ref_of (P := ev_rng) (lv := [(0, .ref 3), (1, .int (Int32.ofInt a0))]) (by decide +kernel) (by (try simp only [ev_sum, ev_nv_cat]); first | done | rfl) (by (try simp only [lv_args, ev_nv_cat]); first | done | rfl) ?_ x S' hJ
  unfold jm_84
  refine ev_r_aload_n (pc := 0) (k := 0) (v := .ref 3) trivial (by decide +kernel) (by rfl) ?_
  refine ev_r_getR (pc := 1) (y := 51) (ci := 7) (f := 7) (fin := 0) (t := 10) (by decide +kernel) (by decide +kernel) (by exact ev_ob_3) rfl rfl ?_
  intro r1 hr1
  have hr1 : r1 = 0 ∨ ev_isOb (r1 - 1) 10 = true := hr1
  refine ev_r_aload_n (pc := 4) (k := 0) (v := .ref 3) trivial (by decide +kernel) (by rfl) ?_
  refine ev_r_getI (pc := 5) (y := 63) (ci := 7) (f := 8) (fin := 0) (by decide +kernel) (by decide +kernel) (by exact ev_ob_3) rfl ?_
  intro x2 hx2
  refine ev_r_iload_n (pc := 8) (k := 1) (v := Int32.ofInt a0) (by decide +kernel) (by rfl) ?_
  refine ev_r_iadd (pc := 9) (by decide +kernel) ?_
  intro x3 hx3
  refine ev_r_chk ?_
  intro c4
  refine ev_r_dr (r := r1) (fun v => [.int (Int32.ofInt x3), v]) c4 ?_
  refine ev_r_virt (pc := 10) (y := 104) (mi := 151) (na := 1) (k := (r1 - 1)) (as := [.int (Int32.ofInt x3)]) (rest := []) (encc := ev_oI) (Q := ev_rng) (fun x S1 h => jt_151 d (by omega) Q ((r1 - 1)) x3 (hr1.resolve_left c4) hx3 S x S1 h) (by exact (hr1.resolve_left c4)) (by decide +kernel) (by decide +kernel) (by decide +kernel) (by decide +kernel) rfl (by (try simp only [ev_sum, ev_nv_cat]); first | done | rfl) ?_
  intro x6 s5 hx6
  show ev_w _ _ _ _ _ [.int (Int32.ofInt x6)] _ _ _ _
  exact ev_r_ireturn (pc := 13) (x := x6) (v := Int32.ofInt x6) (ty := .int) hx6 (by decide +kernel) (by decide +kernel) rfl rfl
/-- MendBench$Reader.countNode()Z -/
def jm_87 (Q : Nat)  (S : ev_St) : Option ((Int) × ev_St) := ev_b (S.1 3 14) fun x1 => ev_ck (x1 + 1) fun x2 => ev_b (ev_pI S 3 14 x2) fun s3 => ev_b (s3.1 3 14) fun x4 => if 150 < x4 then (some (0, s3)) else (some (1, s3))
theorem jt_87 (d : Nat) (hd : 1 ≤ d) (Q : Nat)   (S : ev_St) (x : Int) (S' : ev_St) (hJ : jm_87 Q  S = some (x, S')) : ev_Ref d 87 [.ref 3] S (ev_eI x) S' (ev_bl x) := by
  obtain ⟨d, rfl⟩ : ∃ e, d = e + 1 := ⟨d - 1, by omega⟩
  refine ev_ref_of (P := ev_bl) (lv := [(0, .ref 3)]) (by decide +kernel) (by (try simp only [ev_sum, ev_nv_cat]); first | done | rfl) (by (try simp only [lv_args, ev_nv_cat]); first | done | rfl) ?_ x S' hJ
  unfold jm_87
  refine ev_r_aload_n (pc := 0) (k := 0) (v := .ref 3) trivial (by decide +kernel) (by rfl) ?_
  refine ev_r_dup (pc := 1) rfl (by decide +kernel) ?_
  refine ev_r_getI (pc := 2) (y := 75) (ci := 7) (f := 14) (fin := 0) (by decide +kernel) (by decide +kernel) (by exact ev_ob_3) rfl ?_
  intro x1 hx1
  refine ev_r_iconst (pc := 5) (k := 1) (by decide +kernel) ?_
  refine ev_r_iadd (pc := 6) (by decide +kernel) ?_
  intro x2 hx2
  refine ev_r_putI (pc := 7) (y := 75) (ci := 7) (f := 14) hx2 (by decide +kernel) (by decide +kernel) (by exact ev_ob_3) rfl rfl ?_
  intro s3
  refine ev_r_aload_n (pc := 10) (k := 0) (v := .ref 3) trivial (by decide +kernel) (by rfl) ?_
  refine ev_r_getI (pc := 11) (y := 75) (ci := 7) (f := 14) (fin := 0) (by decide +kernel) (by decide +kernel) (by exact ev_ob_3) rfl ?_
  intro x4 hx4
  refine ev_r_sipush (pc := 14) (k := 150) (by decide +kernel) (by decide +kernel) ?_
  refine ev_r_icmp (pc := 17) (q := .gt) (o := 7) (t := 24) (c := 150 < x4) (by decide +kernel) (ev_k_gt hx4 (by decide)) (by decide +kernel) ?_ ?_
  · intro c5
    refine ev_r_iconst (pc := 24) (k := 0) (by decide +kernel) ?_
    exact ev_r_ireturn (pc := 25) (x := 0) (v := Int32.ofInt 0) (ty := .boolean) (by decide : ev_bl 0) (by decide +kernel) (by decide +kernel) (ev_ret_bl (by decide : ev_bl 0)) rfl
  · intro c5
    refine ev_r_iconst (pc := 20) (k := 1) (by decide +kernel) ?_
    refine ev_r_goto (pc := 21) (o := 4) (t := 25) (by decide +kernel) (by decide +kernel) ?_
    exact ev_r_ireturn (pc := 25) (x := 1) (v := Int32.ofInt 1) (ty := .boolean) (by decide : ev_bl 1) (by decide +kernel) (by decide +kernel) (ev_ret_bl (by decide : ev_bl 1)) rfl
/-- MendBench$Reader.addNode(III)Z -/
def jm_88 (Q : Nat) (a0 : Int) (a1 : Int) (a2 : Int) (S : ev_St) : Option ((Int) × ev_St) := ev_bd (jm_87 Q  S) fun x2 s1 => if x2 ≠ 0 then (ev_b (ev_pI s1 3 13 1) fun s4 => ev_b (s4.2.2.1 3 9) fun r5 => ev_if (r5 ≠ 0) (ev_bd (jm_58 Q ((r5 - 1)) a0 a1 a2 s4) fun x8 s7 => ev_bd (jm_91 Q x8 s7) fun x10 s9 => ev_if (ev_bl x10) (some (x10, s9)))) else (some (0, s1))
theorem jt_88 (d : Nat) (hd : 3 ≤ d) (Q : Nat) (a0 : Int) (a1 : Int) (a2 : Int) (ha0 : ev_rng a0) (ha1 : ev_rng a1) (ha2 : ev_rng a2) (S : ev_St) (x : Int) (S' : ev_St) (hJ : jm_88 Q a0 a1 a2 S = some (x, S')) : ev_Ref d 88 [.ref 3, .int (Int32.ofInt a0), .int (Int32.ofInt a1), .int (Int32.ofInt a2)] S (ev_eI x) S' (ev_bl x) := by
  obtain ⟨d, rfl⟩ : ∃ e, d = e + 1 := ⟨d - 1, by omega⟩
  refine ev_ref_of (P := ev_bl) (lv := [(0, .ref 3), (1, .int (Int32.ofInt a0)), (2, .int (Int32.ofInt a1)), (3, .int (Int32.ofInt a2))]) (by decide +kernel) (by (try simp only [ev_sum, ev_nv_cat]); first | done | rfl) (by (try simp only [lv_args, ev_nv_cat]); first | done | rfl) ?_ x S' hJ
  unfold jm_88
  refine ev_r_aload_n (pc := 0) (k := 0) (v := .ref 3) trivial (by decide +kernel) (by rfl) ?_
  refine ev_r_virt (pc := 1) (y := 162) (mi := 87) (na := 0) (k := 3) (as := []) (rest := []) (encc := ev_oI) (Q := ev_bl) (fun x S1 h => jt_87 d (by omega) Q   S x S1 h) (by exact ev_ob_3) (by decide +kernel) (by decide +kernel) (by decide +kernel) (by decide +kernel) rfl (by (try simp only [ev_sum, ev_nv_cat]); first | done | rfl) ?_
  intro x2 s1 hx2
  replace hx2 := ev_bl_rng hx2
  show ev_w _ _ _ _ _ [.int (Int32.ofInt x2)] _ _ _ _
  refine ev_r_if (pc := 4) (q := .ne) (o := 5) (t := 9) (c := x2 ≠ 0) (by decide +kernel) (ev_k_ne hx2 ev_rng0) (by decide +kernel) ?_ ?_
  · intro c3
    refine ev_r_aload_n (pc := 9) (k := 0) (v := .ref 3) trivial (by decide +kernel) (by rfl) ?_
    refine ev_r_iconst (pc := 10) (k := 1) (by decide +kernel) ?_
    refine ev_r_putI (pc := 11) (y := 165) (ci := 7) (f := 13) (by decide) (by decide +kernel) (by decide +kernel) (by exact ev_ob_3) rfl (ev_fit_bl (by decide : ev_bl 1)) ?_
    intro s4
    refine ev_r_aload_n (pc := 14) (k := 0) (v := .ref 3) trivial (by decide +kernel) (by rfl) ?_
    refine ev_r_aload_n (pc := 15) (k := 0) (v := .ref 3) trivial (by decide +kernel) (by rfl) ?_
    refine ev_r_getR (pc := 16) (y := 55) (ci := 7) (f := 9) (fin := 0) (t := 5) (by decide +kernel) (by decide +kernel) (by exact ev_ob_3) rfl rfl ?_
    intro r5 hr5
    have hr5 : r5 = 0 ∨ ev_isOb (r5 - 1) 5 = true := hr5
    refine ev_r_iload_n (pc := 19) (k := 1) (v := Int32.ofInt a0) (by decide +kernel) (by rfl) ?_
    refine ev_r_iload_n (pc := 20) (k := 2) (v := Int32.ofInt a1) (by decide +kernel) (by rfl) ?_
    refine ev_r_iload_n (pc := 21) (k := 3) (v := Int32.ofInt a2) (by decide +kernel) (by rfl) ?_
    refine ev_r_chk ?_
    intro c6
    refine ev_r_dr (r := r5) (fun v => [.int (Int32.ofInt a2), .int (Int32.ofInt a1), .int (Int32.ofInt a0), v, .ref 3]) c6 ?_
    refine ev_r_virt (pc := 22) (y := 168) (mi := 58) (na := 3) (k := (r5 - 1)) (as := [.int (Int32.ofInt a0), .int (Int32.ofInt a1), .int (Int32.ofInt a2)]) (rest := [.ref 3]) (encc := ev_oI) (Q := ev_rng) (fun x S1 h => jt_58 d (by omega) Q ((r5 - 1)) a0 a1 a2 (hr5.resolve_left c6) ha0 ha1 ha2 s4 x S1 h) (by exact (hr5.resolve_left c6)) (by decide +kernel) (by decide +kernel) (by decide +kernel) (by decide +kernel) rfl (by (try simp only [ev_sum, ev_nv_cat]); first | done | rfl) ?_
    intro x8 s7 hx8
    show ev_w _ _ _ _ _ [.int (Int32.ofInt x8), .ref 3] _ _ _ _
    refine ev_r_virt (pc := 25) (y := 172) (mi := 91) (na := 1) (k := 3) (as := [.int (Int32.ofInt x8)]) (rest := []) (encc := ev_oI) (Q := ev_bl) (fun x S1 h => jt_91 d (by omega) Q x8 hx8 s7 x S1 h) (by exact ev_ob_3) (by decide +kernel) (by decide +kernel) (by decide +kernel) (by decide +kernel) rfl (by (try simp only [ev_sum, ev_nv_cat]); first | done | rfl) ?_
    intro x10 s9 hx10
    replace hx10 := ev_bl_rng hx10
    show ev_w _ _ _ _ _ [.int (Int32.ofInt x10)] _ _ _ _
    refine ev_r_chk ?_
    intro c11
    exact ev_r_ireturn (pc := 28) (x := x10) (v := Int32.ofInt x10) (ty := .boolean) c11 (by decide +kernel) (by decide +kernel) (ev_ret_bl c11) rfl
  · intro c3
    refine ev_r_iconst (pc := 7) (k := 0) (by decide +kernel) ?_
    exact ev_r_ireturn (pc := 8) (x := 0) (v := Int32.ofInt 0) (ty := .boolean) (by decide : ev_bl 0) (by decide +kernel) (by decide +kernel) (ev_ret_bl (by decide : ev_bl 0)) rfl
/-- MendBench$Reader.readVerb()Z -/
def jm_108 (Q : Nat)  (S : ev_St) : Option ((Int) × ev_St) := ev_bd (jm_84 Q 1 S) fun x2 s1 => ev_bd (jm_84 Q 2 s1) fun x4 s3 => if x4 ≠ 41 then (some (0, s3)) else (ev_jn (fun  (s9 : ev_St) => ev_b (s9.1 3 8) fun x10 => ev_ck (x10 + 3) fun x11 => ev_b (ev_pI s9 3 8 x11) fun s12 => ev_jn (fun (x13 : Int) (s16 : ev_St) => ev_bd (jm_88 Q x13 0 0 s16) fun x18 s17 => ev_b (ev_pI s17 3 13 0) fun s19 => ev_if (ev_bl x18) (some (x18, s19))) fun K71 => if x2 ≠ 70 then (if x2 ≠ 67 then (K71 12 s12) else (K71 11 s12)) else (K71 10 s12)) fun K36 => if x2 = 70 then (K36  s3) else (if x2 = 67 then (K36  s3) else (if x2 = 83 then (K36  s3) else (some (0, s3)))))
theorem jt_108 (d : Nat) (hd : 4 ≤ d) (Q : Nat)   (S : ev_St) (x : Int) (S' : ev_St) (hJ : jm_108 Q  S = some (x, S')) : ev_Ref d 108 [.ref 3] S (ev_eI x) S' (ev_bl x) := by
  obtain ⟨d, rfl⟩ : ∃ e, d = e + 1 := ⟨d - 1, by omega⟩
  refine ev_ref_of (P := ev_bl) (lv := [(0, .ref 3)]) (by decide +kernel) (by (try simp only [ev_sum, ev_nv_cat]); first | done | rfl) (by (try simp only [lv_args, ev_nv_cat]); first | done | rfl) ?_ x S' hJ
  unfold jm_108
  refine ev_r_aload_n (pc := 0) (k := 0) (v := .ref 3) trivial (by decide +kernel) (by rfl) ?_
  refine ev_r_iconst (pc := 1) (k := 1) (by decide +kernel) ?_
  refine ev_r_virt (pc := 2) (y := 108) (mi := 84) (na := 1) (k := 3) (as := [.int (Int32.ofInt 1)]) (rest := []) (encc := ev_oI) (Q := ev_rng) (fun x S1 h => jt_84 d (by omega) Q 1 (by decide) S x S1 h) (by exact ev_ob_3) (by decide +kernel) (by decide +kernel) (by decide +kernel) (by decide +kernel) rfl (by (try simp only [ev_sum, ev_nv_cat]); first | done | rfl) ?_
  intro x2 s1 hx2
  show ev_w _ _ _ _ _ [.int (Int32.ofInt x2)] _ _ _ _
  refine ev_r_istore_n (pc := 5) (k := 1) (by decide +kernel) (by decide +kernel) rfl ?_
  refine ev_r_aload_n (pc := 6) (k := 0) (v := .ref 3) trivial (by decide +kernel) (by exact (ev_lk_st1 (by rfl) (by decide) rfl)) ?_
  refine ev_r_iconst (pc := 7) (k := 2) (by decide +kernel) ?_
  refine ev_r_virt (pc := 8) (y := 108) (mi := 84) (na := 1) (k := 3) (as := [.int (Int32.ofInt 2)]) (rest := []) (encc := ev_oI) (Q := ev_rng) (fun x S1 h => jt_84 d (by omega) Q 2 (by decide) s1 x S1 h) (by exact ev_ob_3) (by decide +kernel) (by decide +kernel) (by decide +kernel) (by decide +kernel) rfl (by (try simp only [ev_sum, ev_nv_cat]); first | done | rfl) ?_
  intro x4 s3 hx4
  show ev_w _ _ _ _ _ [.int (Int32.ofInt x4)] _ _ _ _
  refine ev_r_bipush (pc := 11) (k := 41) (by decide +kernel) (by decide +kernel) ?_
  refine ev_r_icmp (pc := 13) (q := .ne) (o := 21) (t := 34) (c := x4 ≠ 41) (by decide +kernel) (ev_k_ne hx4 (by decide)) (by decide +kernel) ?_ ?_
  · intro c5
    refine ev_r_iconst (pc := 34) (k := 0) (by decide +kernel) ?_
    exact ev_r_ireturn (pc := 35) (x := 0) (v := Int32.ofInt 0) (ty := .boolean) (by decide : ev_bl 0) (by decide +kernel) (by decide +kernel) (ev_ret_bl (by decide : ev_bl 0)) rfl
  · intro c5
    refine ev_r_iload_n (pc := 16) (k := 1) (v := Int32.ofInt x2) (by decide +kernel) (by exact ev_lk_st1_self) ?_
    refine ev_r_bipush (pc := 17) (k := 70) (by decide +kernel) (by decide +kernel) ?_
    refine ev_r_jn (Q := fun K => ∀ (s9 : ev_St) (w6 : List (Nat × Value)), ev_lk w6 0 = some (.ref 3) → ev_lk w6 1 = some (.int (Int32.ofInt x2)) → ev_w none (ev_Mof 108) d 36 w6 [] s9 (K  s9) ev_eI ev_bl) ?_ ?_
    · intro  s9 w6 e7 e8
      refine ev_r_aload_n (pc := 36) (k := 0) (v := .ref 3) trivial (by decide +kernel) (by exact e7) ?_
      refine ev_r_dup (pc := 37) rfl (by decide +kernel) ?_
      refine ev_r_getI (pc := 38) (y := 63) (ci := 7) (f := 8) (fin := 0) (by decide +kernel) (by decide +kernel) (by exact ev_ob_3) rfl ?_
      intro x10 hx10
      refine ev_r_iconst (pc := 41) (k := 3) (by decide +kernel) ?_
      refine ev_r_iadd (pc := 42) (by decide +kernel) ?_
      intro x11 hx11
      refine ev_r_putI (pc := 43) (y := 63) (ci := 7) (f := 8) hx11 (by decide +kernel) (by decide +kernel) (by exact ev_ob_3) rfl rfl ?_
      intro s12
      refine ev_r_aload_n (pc := 46) (k := 0) (v := .ref 3) trivial (by decide +kernel) (by exact e7) ?_
      refine ev_r_iload_n (pc := 47) (k := 1) (v := Int32.ofInt x2) (by decide +kernel) (by exact e8) ?_
      refine ev_r_bipush (pc := 48) (k := 70) (by decide +kernel) (by decide +kernel) ?_
      refine ev_r_jn (Q := fun K => ∀ (x13 : Int) (hx13 : ev_rng x13), ∀ (s16 : ev_St) (w14 : List (Nat × Value)), ev_lk w14 0 = some (.ref 3) → ev_w none (ev_Mof 108) d 71 w14 [.int (Int32.ofInt x13), .ref 3] s16 (K x13 s16) ev_eI ev_bl) ?_ ?_
      · intro x13 hx13 s16 w14 e15
        refine ev_r_iconst (pc := 71) (k := 0) (by decide +kernel) ?_
        refine ev_r_iconst (pc := 72) (k := 0) (by decide +kernel) ?_
        refine ev_r_virt (pc := 73) (y := 155) (mi := 88) (na := 3) (k := 3) (as := [.int (Int32.ofInt x13), .int (Int32.ofInt 0), .int (Int32.ofInt 0)]) (rest := []) (encc := ev_oI) (Q := ev_bl) (fun x S1 h => jt_88 d (by omega) Q x13 0 0 hx13 (by decide) (by decide) s16 x S1 h) (by exact ev_ob_3) (by decide +kernel) (by decide +kernel) (by decide +kernel) (by decide +kernel) rfl (by (try simp only [ev_sum, ev_nv_cat]); first | done | rfl) ?_
        intro x18 s17 hx18
        replace hx18 := ev_bl_rng hx18
        show ev_w _ _ _ _ _ [.int (Int32.ofInt x18)] _ _ _ _
        refine ev_r_istore_n (pc := 76) (k := 2) (by decide +kernel) (by decide +kernel) rfl ?_
        refine ev_r_aload_n (pc := 77) (k := 0) (v := .ref 3) trivial (by decide +kernel) (by exact (ev_l1 e15 (by decide) (by decide))) ?_
        refine ev_r_iconst (pc := 78) (k := 0) (by decide +kernel) ?_
        refine ev_r_putI (pc := 79) (y := 165) (ci := 7) (f := 13) (by decide) (by decide +kernel) (by decide +kernel) (by exact ev_ob_3) rfl (ev_fit_bl (by decide : ev_bl 0)) ?_
        intro s19
        refine ev_r_iload_n (pc := 82) (k := 2) (v := Int32.ofInt x18) (by decide +kernel) (by exact ev_lk_st1_self) ?_
        refine ev_r_chk ?_
        intro c20
        exact ev_r_ireturn (pc := 83) (x := x18) (v := Int32.ofInt x18) (ty := .boolean) c20 (by decide +kernel) (by decide +kernel) (ev_ret_bl c20) rfl
      · intro K71 hK71
        refine ev_r_icmp (pc := 50) (q := .ne) (o := 8) (t := 58) (c := x2 ≠ 70) (by decide +kernel) (ev_k_ne hx2 (by decide)) (by decide +kernel) ?_ ?_
        · intro c21
          refine ev_r_iload_n (pc := 58) (k := 1) (v := Int32.ofInt x2) (by decide +kernel) (by exact e8) ?_
          refine ev_r_bipush (pc := 59) (k := 67) (by decide +kernel) (by decide +kernel) ?_
          refine ev_r_icmp (pc := 61) (q := .ne) (o := 8) (t := 69) (c := x2 ≠ 67) (by decide +kernel) (ev_k_ne hx2 (by decide)) (by decide +kernel) ?_ ?_
          · intro c22
            refine ev_r_bipush (pc := 69) (k := 12) (by decide +kernel) (by decide +kernel) ?_
            exact hK71 12 (by decide) s12 _ (by exact e7)
          · intro c22
            refine ev_r_bipush (pc := 64) (k := 11) (by decide +kernel) (by decide +kernel) ?_
            refine ev_r_goto (pc := 66) (o := 5) (t := 71) (by decide +kernel) (by decide +kernel) ?_
            exact hK71 11 (by decide) s12 _ (by exact e7)
        · intro c21
          refine ev_r_bipush (pc := 53) (k := 10) (by decide +kernel) (by decide +kernel) ?_
          refine ev_r_goto (pc := 55) (o := 16) (t := 71) (by decide +kernel) (by decide +kernel) ?_
          exact hK71 10 (by decide) s12 _ (by exact e7)
    · intro K36 hK36
      refine ev_r_icmp (pc := 19) (q := .eq) (o := 17) (t := 36) (c := x2 = 70) (by decide +kernel) (ev_k_eq hx2 (by decide)) (by decide +kernel) ?_ ?_
      · intro c23
        exact hK36  s3 _ (by exact (ev_lk_st1 (by rfl) (by decide) rfl)) (by exact ev_lk_st1_self)
      · intro c23
        refine ev_r_iload_n (pc := 22) (k := 1) (v := Int32.ofInt x2) (by decide +kernel) (by exact ev_lk_st1_self) ?_
        refine ev_r_bipush (pc := 23) (k := 67) (by decide +kernel) (by decide +kernel) ?_
        refine ev_r_icmp (pc := 25) (q := .eq) (o := 11) (t := 36) (c := x2 = 67) (by decide +kernel) (ev_k_eq hx2 (by decide)) (by decide +kernel) ?_ ?_
        · intro c24
          exact hK36  s3 _ (by exact (ev_lk_st1 (by rfl) (by decide) rfl)) (by exact ev_lk_st1_self)
        · intro c24
          refine ev_r_iload_n (pc := 28) (k := 1) (v := Int32.ofInt x2) (by decide +kernel) (by exact ev_lk_st1_self) ?_
          refine ev_r_bipush (pc := 29) (k := 83) (by decide +kernel) (by decide +kernel) ?_
          refine ev_r_icmp (pc := 31) (q := .eq) (o := 5) (t := 36) (c := x2 = 83) (by decide +kernel) (ev_k_eq hx2 (by decide)) (by decide +kernel) ?_ ?_
          · intro c25
            exact hK36  s3 _ (by exact (ev_lk_st1 (by rfl) (by decide) rfl)) (by exact ev_lk_st1_self)
          · intro c25
            refine ev_r_iconst (pc := 34) (k := 0) (by decide +kernel) ?_
            exact ev_r_ireturn (pc := 35) (x := 0) (v := Int32.ofInt 0) (ty := .boolean) (by decide : ev_bl 0) (by decide +kernel) (by decide +kernel) (ev_ret_bl (by decide : ev_bl 0)) rfl
/-- MendBench$Reader.beginPart(III)Z -/
def jm_103 (Q : Nat) (a0 : Int) (a1 : Int) (a2 : Int) (S : ev_St) : Option ((Int) × ev_St) := ev_b (S.1 3 8) fun x1 => ev_ck (x1 + a0) fun x2 => ev_b (ev_pI S 3 8 x2) fun s3 => ev_bd (jm_87 Q  s3) fun x5 s4 => if x5 = 0 then (some (0, s4)) else (ev_bd (jm_98 Q a1 a2 0 s4) fun x8 s7 => if x8 = 0 then (some (0, s7)) else (some (1, s7)))
theorem jt_103 (d : Nat) (hd : 2 ≤ d) (Q : Nat) (a0 : Int) (a1 : Int) (a2 : Int) (ha0 : ev_rng a0) (ha1 : ev_rng a1) (ha2 : ev_rng a2) (S : ev_St) (x : Int) (S' : ev_St) (hJ : jm_103 Q a0 a1 a2 S = some (x, S')) : ev_Ref d 103 [.ref 3, .int (Int32.ofInt a0), .int (Int32.ofInt a1), .int (Int32.ofInt a2)] S (ev_eI x) S' (ev_bl x) := by
  obtain ⟨d, rfl⟩ : ∃ e, d = e + 1 := ⟨d - 1, by omega⟩
  refine ev_ref_of (P := ev_bl) (lv := [(0, .ref 3), (1, .int (Int32.ofInt a0)), (2, .int (Int32.ofInt a1)), (3, .int (Int32.ofInt a2))]) (by decide +kernel) (by (try simp only [ev_sum, ev_nv_cat]); first | done | rfl) (by (try simp only [lv_args, ev_nv_cat]); first | done | rfl) ?_ x S' hJ
  unfold jm_103
  refine ev_r_aload_n (pc := 0) (k := 0) (v := .ref 3) trivial (by decide +kernel) (by rfl) ?_
  refine ev_r_dup (pc := 1) rfl (by decide +kernel) ?_
  refine ev_r_getI (pc := 2) (y := 63) (ci := 7) (f := 8) (fin := 0) (by decide +kernel) (by decide +kernel) (by exact ev_ob_3) rfl ?_
  intro x1 hx1
  refine ev_r_iload_n (pc := 5) (k := 1) (v := Int32.ofInt a0) (by decide +kernel) (by rfl) ?_
  refine ev_r_iadd (pc := 6) (by decide +kernel) ?_
  intro x2 hx2
  refine ev_r_putI (pc := 7) (y := 63) (ci := 7) (f := 8) hx2 (by decide +kernel) (by decide +kernel) (by exact ev_ob_3) rfl rfl ?_
  intro s3
  refine ev_r_aload_n (pc := 10) (k := 0) (v := .ref 3) trivial (by decide +kernel) (by rfl) ?_
  refine ev_r_virt (pc := 11) (y := 162) (mi := 87) (na := 0) (k := 3) (as := []) (rest := []) (encc := ev_oI) (Q := ev_bl) (fun x S1 h => jt_87 d (by omega) Q   s3 x S1 h) (by exact ev_ob_3) (by decide +kernel) (by decide +kernel) (by decide +kernel) (by decide +kernel) rfl (by (try simp only [ev_sum, ev_nv_cat]); first | done | rfl) ?_
  intro x5 s4 hx5
  replace hx5 := ev_bl_rng hx5
  show ev_w _ _ _ _ _ [.int (Int32.ofInt x5)] _ _ _ _
  refine ev_r_if (pc := 14) (q := .eq) (o := 17) (t := 31) (c := x5 = 0) (by decide +kernel) (ev_k_eq hx5 ev_rng0) (by decide +kernel) ?_ ?_
  · intro c6
    refine ev_r_iconst (pc := 31) (k := 0) (by decide +kernel) ?_
    exact ev_r_ireturn (pc := 32) (x := 0) (v := Int32.ofInt 0) (ty := .boolean) (by decide : ev_bl 0) (by decide +kernel) (by decide +kernel) (ev_ret_bl (by decide : ev_bl 0)) rfl
  · intro c6
    refine ev_r_aload_n (pc := 17) (k := 0) (v := .ref 3) trivial (by decide +kernel) (by rfl) ?_
    refine ev_r_iload_n (pc := 18) (k := 2) (v := Int32.ofInt a1) (by decide +kernel) (by rfl) ?_
    refine ev_r_iload_n (pc := 19) (k := 3) (v := Int32.ofInt a2) (by decide +kernel) (by rfl) ?_
    refine ev_r_iconst (pc := 20) (k := 0) (by decide +kernel) ?_
    refine ev_r_virt (pc := 21) (y := 83) (mi := 98) (na := 3) (k := 3) (as := [.int (Int32.ofInt a1), .int (Int32.ofInt a2), .int (Int32.ofInt 0)]) (rest := []) (encc := ev_oI) (Q := ev_bl) (fun x S1 h => jt_98 d (by omega) Q a1 a2 0 ha1 ha2 (by decide) s4 x S1 h) (by exact ev_ob_3) (by decide +kernel) (by decide +kernel) (by decide +kernel) (by decide +kernel) rfl (by (try simp only [ev_sum, ev_nv_cat]); first | done | rfl) ?_
    intro x8 s7 hx8
    replace hx8 := ev_bl_rng hx8
    show ev_w _ _ _ _ _ [.int (Int32.ofInt x8)] _ _ _ _
    refine ev_r_if (pc := 24) (q := .eq) (o := 7) (t := 31) (c := x8 = 0) (by decide +kernel) (ev_k_eq hx8 ev_rng0) (by decide +kernel) ?_ ?_
    · intro c9
      refine ev_r_iconst (pc := 31) (k := 0) (by decide +kernel) ?_
      exact ev_r_ireturn (pc := 32) (x := 0) (v := Int32.ofInt 0) (ty := .boolean) (by decide : ev_bl 0) (by decide +kernel) (by decide +kernel) (ev_ret_bl (by decide : ev_bl 0)) rfl
    · intro c9
      refine ev_r_iconst (pc := 27) (k := 1) (by decide +kernel) ?_
      refine ev_r_goto (pc := 28) (o := 4) (t := 32) (by decide +kernel) (by decide +kernel) ?_
      exact ev_r_ireturn (pc := 32) (x := 1) (v := Int32.ofInt 1) (ty := .boolean) (by decide : ev_bl 1) (by decide +kernel) (by decide +kernel) (ev_ret_bl (by decide : ev_bl 1)) rfl
/-- MendBench$Reader.beginGroup()Z -/
def jm_104 (Q : Nat)  (S : ev_St) : Option ((Int) × ev_St) := ev_b (S.2.2.1 3 9) fun r1 => ev_if (r1 ≠ 0) (ev_b (S.1 ((r1 - 1)) 12) fun x3 => if x3 < 9 then (ev_b (S.2.2.1 3 9) fun r5 => ev_if (r5 ≠ 0) (ev_b (S.1 ((r5 - 1)) 12) fun x7 => ev_ck (x7 + 1) fun x8 => ev_if (r5 ≠ 0) (ev_b (ev_pI S ((r5 - 1)) 12 x8) fun s10 => ev_b (s10.2.2.1 3 9) fun r11 => ev_if (r11 ≠ 0) (ev_b (s10.1 ((r11 - 1)) 12) fun x13 => ev_bd (jm_103 Q 0 18 x13 s10) fun x15 s14 => ev_if (ev_bl x15) (some (x15, s14)))))) else (some (0, S)))
theorem jt_104 (d : Nat) (hd : 3 ≤ d) (Q : Nat)   (S : ev_St) (x : Int) (S' : ev_St) (hJ : jm_104 Q  S = some (x, S')) : ev_Ref d 104 [.ref 3] S (ev_eI x) S' (ev_bl x) := by
  obtain ⟨d, rfl⟩ : ∃ e, d = e + 1 := ⟨d - 1, by omega⟩
  refine ev_ref_of (P := ev_bl) (lv := [(0, .ref 3)]) (by decide +kernel) (by (try simp only [ev_sum, ev_nv_cat]); first | done | rfl) (by (try simp only [lv_args, ev_nv_cat]); first | done | rfl) ?_ x S' hJ
  unfold jm_104
  refine ev_r_aload_n (pc := 0) (k := 0) (v := .ref 3) trivial (by decide +kernel) (by rfl) ?_
  refine ev_r_getR (pc := 1) (y := 55) (ci := 7) (f := 9) (fin := 0) (t := 5) (by decide +kernel) (by decide +kernel) (by exact ev_ob_3) rfl rfl ?_
  intro r1 hr1
  have hr1 : r1 = 0 ∨ ev_isOb (r1 - 1) 5 = true := hr1
  refine ev_r_chk ?_
  intro c2
  refine ev_r_dr (r := r1) (fun v => [v]) c2 ?_
  refine ev_r_getI (pc := 4) (y := 274) (ci := 5) (f := 12) (fin := 0) (by decide +kernel) (by decide +kernel) (by exact (hr1.resolve_left c2)) rfl ?_
  intro x3 hx3
  refine ev_r_bipush (pc := 7) (k := 9) (by decide +kernel) (by decide +kernel) ?_
  refine ev_r_icmp (pc := 9) (q := .lt) (o := 5) (t := 14) (c := x3 < 9) (by decide +kernel) (ev_k_lt hx3 (by decide)) (by decide +kernel) ?_ ?_
  · intro c4
    refine ev_r_aload_n (pc := 14) (k := 0) (v := .ref 3) trivial (by decide +kernel) (by rfl) ?_
    refine ev_r_getR (pc := 15) (y := 55) (ci := 7) (f := 9) (fin := 0) (t := 5) (by decide +kernel) (by decide +kernel) (by exact ev_ob_3) rfl rfl ?_
    intro r5 hr5
    have hr5 : r5 = 0 ∨ ev_isOb (r5 - 1) 5 = true := hr5
    refine ev_r_dup (pc := 18) (ev_nv_cat _) (by decide +kernel) ?_
    refine ev_r_chk ?_
    intro c6
    refine ev_r_dr (r := r5) (fun v => [v, ev_nv r5]) c6 ?_
    refine ev_r_getI (pc := 19) (y := 274) (ci := 5) (f := 12) (fin := 0) (by decide +kernel) (by decide +kernel) (by exact (hr5.resolve_left c6)) rfl ?_
    intro x7 hx7
    refine ev_r_iconst (pc := 22) (k := 1) (by decide +kernel) ?_
    refine ev_r_iadd (pc := 23) (by decide +kernel) ?_
    intro x8 hx8
    refine ev_r_chk ?_
    intro c9
    refine ev_r_dr (r := r5) (fun v => [.int (Int32.ofInt x8), v]) c9 ?_
    refine ev_r_putI (pc := 24) (y := 274) (ci := 5) (f := 12) hx8 (by decide +kernel) (by decide +kernel) (by exact (hr5.resolve_left c9)) rfl rfl ?_
    intro s10
    refine ev_r_aload_n (pc := 27) (k := 0) (v := .ref 3) trivial (by decide +kernel) (by rfl) ?_
    refine ev_r_iconst (pc := 28) (k := 0) (by decide +kernel) ?_
    refine ev_r_bipush (pc := 29) (k := 18) (by decide +kernel) (by decide +kernel) ?_
    refine ev_r_aload_n (pc := 31) (k := 0) (v := .ref 3) trivial (by decide +kernel) (by rfl) ?_
    refine ev_r_getR (pc := 32) (y := 55) (ci := 7) (f := 9) (fin := 0) (t := 5) (by decide +kernel) (by decide +kernel) (by exact ev_ob_3) rfl rfl ?_
    intro r11 hr11
    have hr11 : r11 = 0 ∨ ev_isOb (r11 - 1) 5 = true := hr11
    refine ev_r_chk ?_
    intro c12
    refine ev_r_dr (r := r11) (fun v => [v, .int (Int32.ofInt 18), .int (Int32.ofInt 0), .ref 3]) c12 ?_
    refine ev_r_getI (pc := 35) (y := 274) (ci := 5) (f := 12) (fin := 0) (by decide +kernel) (by decide +kernel) (by exact (hr11.resolve_left c12)) rfl ?_
    intro x13 hx13
    refine ev_r_virt (pc := 38) (y := 256) (mi := 103) (na := 3) (k := 3) (as := [.int (Int32.ofInt 0), .int (Int32.ofInt 18), .int (Int32.ofInt x13)]) (rest := []) (encc := ev_oI) (Q := ev_bl) (fun x S1 h => jt_103 d (by omega) Q 0 18 x13 (by decide) (by decide) hx13 s10 x S1 h) (by exact ev_ob_3) (by decide +kernel) (by decide +kernel) (by decide +kernel) (by decide +kernel) rfl (by (try simp only [ev_sum, ev_nv_cat]); first | done | rfl) ?_
    intro x15 s14 hx15
    replace hx15 := ev_bl_rng hx15
    show ev_w _ _ _ _ _ [.int (Int32.ofInt x15)] _ _ _ _
    refine ev_r_chk ?_
    intro c16
    exact ev_r_ireturn (pc := 41) (x := x15) (v := Int32.ofInt x15) (ty := .boolean) c16 (by decide +kernel) (by decide +kernel) (ev_ret_bl c16) rfl
  · intro c4
    refine ev_r_iconst (pc := 12) (k := 0) (by decide +kernel) ?_
    exact ev_r_ireturn (pc := 13) (x := 0) (v := Int32.ofInt 0) (ty := .boolean) (by decide : ev_bl 0) (by decide +kernel) (by decide +kernel) (ev_ret_bl (by decide : ev_bl 0)) rfl
/-- MendBench$Reader.readAngle()Z -/
def jm_105 (Q : Nat)  (S : ev_St) : Option ((Int) × ev_St) := ev_bd (jm_84 Q 2 S) fun x2 s1 => if x2 ≠ 61 then (if x2 ≠ 33 then (ev_bd (jm_209 Q x2 s1) fun x6 s5 => if x6 = 0 then (some (0, s5)) else (ev_bd (jm_84 Q 3 s5) fun x9 s8 => if x9 ≠ 62 then (some (0, s8)) else (ev_b (s8.2.2.1 3 9) fun r11 => ev_if (r11 ≠ 0) (ev_ck (x2 - 97) fun x13 => ev_if ((0 : Int) ≤ x13 ∧ x13 < (ev_aln (((r11 - 1) + 11)) : Int)) (ev_b (s8.1 (((r11 - 1) + 11)) (Int.toNat x13)) fun x14 => if x14 = 0 then (ev_b (s8.1 3 8) fun x16 => ev_ck (x16 + 4) fun x17 => ev_b (ev_pI s8 3 8 x17) fun s18 => ev_bd (jm_104 Q  s18) fun x20 s19 => ev_b (s19.2.2.1 3 9) fun r21 => ev_if (r21 ≠ 0) (ev_ck (x2 - 97) fun x23 => ev_b (s19.2.2.1 3 9) fun r24 => ev_if (r24 ≠ 0) (ev_b (s19.1 ((r24 - 1)) 12) fun x26 => ev_if ((0 : Int) ≤ x23 ∧ x23 < (ev_aln (((r21 - 1) + 11)) : Int)) (ev_b (ev_pI s19 (((r21 - 1) + 11)) (Int.toNat x23) x26) fun s27 => ev_if (ev_bl x20) (some (x20, s27)))))) else (some (0, s8))))))) else (ev_bd (jm_103 Q 3 23 0 s1) fun x30 s29 => ev_if (ev_bl x30) (some (x30, s29)))) else (ev_bd (jm_103 Q 3 22 0 s1) fun x33 s32 => ev_if (ev_bl x33) (some (x33, s32)))
theorem jt_105 (d : Nat) (hd : 4 ≤ d) (Q : Nat)   (S : ev_St) (x : Int) (S' : ev_St) (hJ : jm_105 Q  S = some (x, S')) : ev_Ref d 105 [.ref 3] S (ev_eI x) S' (ev_bl x) := by
  obtain ⟨d, rfl⟩ : ∃ e, d = e + 1 := ⟨d - 1, by omega⟩
  refine ev_ref_of (P := ev_bl) (lv := [(0, .ref 3)]) (by decide +kernel) (by (try simp only [ev_sum, ev_nv_cat]); first | done | rfl) (by (try simp only [lv_args, ev_nv_cat]); first | done | rfl) ?_ x S' hJ
  unfold jm_105
  refine ev_r_aload_n (pc := 0) (k := 0) (v := .ref 3) trivial (by decide +kernel) (by rfl) ?_
  refine ev_r_iconst (pc := 1) (k := 2) (by decide +kernel) ?_
  refine ev_r_virt (pc := 2) (y := 108) (mi := 84) (na := 1) (k := 3) (as := [.int (Int32.ofInt 2)]) (rest := []) (encc := ev_oI) (Q := ev_rng) (fun x S1 h => jt_84 d (by omega) Q 2 (by decide) S x S1 h) (by exact ev_ob_3) (by decide +kernel) (by decide +kernel) (by decide +kernel) (by decide +kernel) rfl (by (try simp only [ev_sum, ev_nv_cat]); first | done | rfl) ?_
  intro x2 s1 hx2
  show ev_w _ _ _ _ _ [.int (Int32.ofInt x2)] _ _ _ _
  refine ev_r_istore_n (pc := 5) (k := 1) (by decide +kernel) (by decide +kernel) rfl ?_
  refine ev_r_iload_n (pc := 6) (k := 1) (v := Int32.ofInt x2) (by decide +kernel) (by exact ev_lk_st1_self) ?_
  refine ev_r_bipush (pc := 7) (k := 61) (by decide +kernel) (by decide +kernel) ?_
  refine ev_r_icmp (pc := 9) (q := .ne) (o := 12) (t := 21) (c := x2 ≠ 61) (by decide +kernel) (ev_k_ne hx2 (by decide)) (by decide +kernel) ?_ ?_
  · intro c3
    refine ev_r_iload_n (pc := 21) (k := 1) (v := Int32.ofInt x2) (by decide +kernel) (by exact ev_lk_st1_self) ?_
    refine ev_r_bipush (pc := 22) (k := 33) (by decide +kernel) (by decide +kernel) ?_
    refine ev_r_icmp (pc := 24) (q := .ne) (o := 12) (t := 36) (c := x2 ≠ 33) (by decide +kernel) (ev_k_ne hx2 (by decide)) (by decide +kernel) ?_ ?_
    · intro c4
      refine ev_r_iload_n (pc := 36) (k := 1) (v := Int32.ofInt x2) (by decide +kernel) (by exact ev_lk_st1_self) ?_
      refine ev_r_stat (pc := 37) (y := 43) (kind := 5) (mi := 209) (na := 1) (as := [.int (Int32.ofInt x2)]) (rest := []) (encc := ev_oI) (Q := ev_bl) (fun x S1 h => jt_209 d (by omega) Q x2 hx2 s1 x S1 h) (Or.inr (Or.inl rfl)) (by decide +kernel) (by decide +kernel) (by decide +kernel) (by decide +kernel) rfl (by (try simp only [ev_sum, ev_nv_cat]); first | done | rfl) ?_
      intro x6 s5 hx6
      replace hx6 := ev_bl_rng hx6
      show ev_w _ _ _ _ _ [.int (Int32.ofInt x6)] _ _ _ _
      refine ev_r_if (pc := 40) (q := .eq) (o := 28) (t := 68) (c := x6 = 0) (by decide +kernel) (ev_k_eq hx6 ev_rng0) (by decide +kernel) ?_ ?_
      · intro c7
        refine ev_r_iconst (pc := 68) (k := 0) (by decide +kernel) ?_
        exact ev_r_ireturn (pc := 69) (x := 0) (v := Int32.ofInt 0) (ty := .boolean) (by decide : ev_bl 0) (by decide +kernel) (by decide +kernel) (ev_ret_bl (by decide : ev_bl 0)) rfl
      · intro c7
        refine ev_r_aload_n (pc := 43) (k := 0) (v := .ref 3) trivial (by decide +kernel) (by exact (ev_lk_st1 (by rfl) (by decide) rfl)) ?_
        refine ev_r_iconst (pc := 44) (k := 3) (by decide +kernel) ?_
        refine ev_r_virt (pc := 45) (y := 108) (mi := 84) (na := 1) (k := 3) (as := [.int (Int32.ofInt 3)]) (rest := []) (encc := ev_oI) (Q := ev_rng) (fun x S1 h => jt_84 d (by omega) Q 3 (by decide) s5 x S1 h) (by exact ev_ob_3) (by decide +kernel) (by decide +kernel) (by decide +kernel) (by decide +kernel) rfl (by (try simp only [ev_sum, ev_nv_cat]); first | done | rfl) ?_
        intro x9 s8 hx9
        show ev_w _ _ _ _ _ [.int (Int32.ofInt x9)] _ _ _ _
        refine ev_r_bipush (pc := 48) (k := 62) (by decide +kernel) (by decide +kernel) ?_
        refine ev_r_icmp (pc := 50) (q := .ne) (o := 18) (t := 68) (c := x9 ≠ 62) (by decide +kernel) (ev_k_ne hx9 (by decide)) (by decide +kernel) ?_ ?_
        · intro c10
          refine ev_r_iconst (pc := 68) (k := 0) (by decide +kernel) ?_
          exact ev_r_ireturn (pc := 69) (x := 0) (v := Int32.ofInt 0) (ty := .boolean) (by decide : ev_bl 0) (by decide +kernel) (by decide +kernel) (ev_ret_bl (by decide : ev_bl 0)) rfl
        · intro c10
          refine ev_r_aload_n (pc := 53) (k := 0) (v := .ref 3) trivial (by decide +kernel) (by exact (ev_lk_st1 (by rfl) (by decide) rfl)) ?_
          refine ev_r_getR (pc := 54) (y := 55) (ci := 7) (f := 9) (fin := 0) (t := 5) (by decide +kernel) (by decide +kernel) (by exact ev_ob_3) rfl rfl ?_
          intro r11 hr11
          have hr11 : r11 = 0 ∨ ev_isOb (r11 - 1) 5 = true := hr11
          refine ev_r_chk ?_
          intro c12
          refine ev_r_dr (r := r11) (fun v => [v]) c12 ?_
          refine ev_r_getC (pc := 57) (y := 277) (ci := 5) (f := 10) (fin := 2) (k' := ((r11 - 1) + 11)) (by decide +kernel) (by decide +kernel) (by exact (hr11.resolve_left c12)) rfl rfl ?_
          refine ev_r_iload_n (pc := 60) (k := 1) (v := Int32.ofInt x2) (by decide +kernel) (by exact ev_lk_st1_self) ?_
          refine ev_r_bipush (pc := 61) (k := 97) (by decide +kernel) (by decide +kernel) ?_
          refine ev_r_isub (pc := 63) (by decide +kernel) ?_
          intro x13 hx13
          refine ev_r_iald (pc := 64) hx13 (by decide +kernel) (by exact (ev_fo_5_10 (hr11.resolve_left c12))) ?_
          intro x14 hx14
          refine ev_r_if (pc := 65) (q := .eq) (o := 5) (t := 70) (c := x14 = 0) (by decide +kernel) (ev_k_eq hx14 ev_rng0) (by decide +kernel) ?_ ?_
          · intro c15
            refine ev_r_aload_n (pc := 70) (k := 0) (v := .ref 3) trivial (by decide +kernel) (by exact (ev_lk_st1 (by rfl) (by decide) rfl)) ?_
            refine ev_r_dup (pc := 71) rfl (by decide +kernel) ?_
            refine ev_r_getI (pc := 72) (y := 63) (ci := 7) (f := 8) (fin := 0) (by decide +kernel) (by decide +kernel) (by exact ev_ob_3) rfl ?_
            intro x16 hx16
            refine ev_r_iconst (pc := 75) (k := 4) (by decide +kernel) ?_
            refine ev_r_iadd (pc := 76) (by decide +kernel) ?_
            intro x17 hx17
            refine ev_r_putI (pc := 77) (y := 63) (ci := 7) (f := 8) hx17 (by decide +kernel) (by decide +kernel) (by exact ev_ob_3) rfl rfl ?_
            intro s18
            refine ev_r_aload_n (pc := 80) (k := 0) (v := .ref 3) trivial (by decide +kernel) (by exact (ev_lk_st1 (by rfl) (by decide) rfl)) ?_
            refine ev_r_virt (pc := 81) (y := 253) (mi := 104) (na := 0) (k := 3) (as := []) (rest := []) (encc := ev_oI) (Q := ev_bl) (fun x S1 h => jt_104 d (by omega) Q   s18 x S1 h) (by exact ev_ob_3) (by decide +kernel) (by decide +kernel) (by decide +kernel) (by decide +kernel) rfl (by (try simp only [ev_sum, ev_nv_cat]); first | done | rfl) ?_
            intro x20 s19 hx20
            replace hx20 := ev_bl_rng hx20
            show ev_w _ _ _ _ _ [.int (Int32.ofInt x20)] _ _ _ _
            refine ev_r_istore_n (pc := 84) (k := 2) (by decide +kernel) (by decide +kernel) rfl ?_
            refine ev_r_aload_n (pc := 85) (k := 0) (v := .ref 3) trivial (by decide +kernel) (by exact (ev_l1 (ev_lk_st1 (by rfl) (by decide) rfl) (by decide) (by decide))) ?_
            refine ev_r_getR (pc := 86) (y := 55) (ci := 7) (f := 9) (fin := 0) (t := 5) (by decide +kernel) (by decide +kernel) (by exact ev_ob_3) rfl rfl ?_
            intro r21 hr21
            have hr21 : r21 = 0 ∨ ev_isOb (r21 - 1) 5 = true := hr21
            refine ev_r_chk ?_
            intro c22
            refine ev_r_dr (r := r21) (fun v => [v]) c22 ?_
            refine ev_r_getC (pc := 89) (y := 277) (ci := 5) (f := 10) (fin := 2) (k' := ((r21 - 1) + 11)) (by decide +kernel) (by decide +kernel) (by exact (hr21.resolve_left c22)) rfl rfl ?_
            refine ev_r_iload_n (pc := 92) (k := 1) (v := Int32.ofInt x2) (by decide +kernel) (by exact (ev_lk_st1 ev_lk_st1_self (by decide) rfl)) ?_
            refine ev_r_bipush (pc := 93) (k := 97) (by decide +kernel) (by decide +kernel) ?_
            refine ev_r_isub (pc := 95) (by decide +kernel) ?_
            intro x23 hx23
            refine ev_r_aload_n (pc := 96) (k := 0) (v := .ref 3) trivial (by decide +kernel) (by exact (ev_l1 (ev_lk_st1 (by rfl) (by decide) rfl) (by decide) (by decide))) ?_
            refine ev_r_getR (pc := 97) (y := 55) (ci := 7) (f := 9) (fin := 0) (t := 5) (by decide +kernel) (by decide +kernel) (by exact ev_ob_3) rfl rfl ?_
            intro r24 hr24
            have hr24 : r24 = 0 ∨ ev_isOb (r24 - 1) 5 = true := hr24
            refine ev_r_chk ?_
            intro c25
            refine ev_r_dr (r := r24) (fun v => [v, .int (Int32.ofInt x23), .ref (((r21 - 1) + 11))]) c25 ?_
            refine ev_r_getI (pc := 100) (y := 274) (ci := 5) (f := 12) (fin := 0) (by decide +kernel) (by decide +kernel) (by exact (hr24.resolve_left c25)) rfl ?_
            intro x26 hx26
            refine ev_r_iast (pc := 103) hx26 hx23 (by decide +kernel) (by exact (ev_fo_5_10 (hr21.resolve_left c22))) ?_
            intro s27
            refine ev_r_iload_n (pc := 104) (k := 2) (v := Int32.ofInt x20) (by decide +kernel) (by exact ev_lk_st1_self) ?_
            refine ev_r_chk ?_
            intro c28
            exact ev_r_ireturn (pc := 105) (x := x20) (v := Int32.ofInt x20) (ty := .boolean) c28 (by decide +kernel) (by decide +kernel) (ev_ret_bl c28) rfl
          · intro c15
            refine ev_r_iconst (pc := 68) (k := 0) (by decide +kernel) ?_
            exact ev_r_ireturn (pc := 69) (x := 0) (v := Int32.ofInt 0) (ty := .boolean) (by decide : ev_bl 0) (by decide +kernel) (by decide +kernel) (ev_ret_bl (by decide : ev_bl 0)) rfl
    · intro c4
      refine ev_r_aload_n (pc := 27) (k := 0) (v := .ref 3) trivial (by decide +kernel) (by exact (ev_lk_st1 (by rfl) (by decide) rfl)) ?_
      refine ev_r_iconst (pc := 28) (k := 3) (by decide +kernel) ?_
      refine ev_r_bipush (pc := 29) (k := 23) (by decide +kernel) (by decide +kernel) ?_
      refine ev_r_iconst (pc := 31) (k := 0) (by decide +kernel) ?_
      refine ev_r_virt (pc := 32) (y := 256) (mi := 103) (na := 3) (k := 3) (as := [.int (Int32.ofInt 3), .int (Int32.ofInt 23), .int (Int32.ofInt 0)]) (rest := []) (encc := ev_oI) (Q := ev_bl) (fun x S1 h => jt_103 d (by omega) Q 3 23 0 (by decide) (by decide) (by decide) s1 x S1 h) (by exact ev_ob_3) (by decide +kernel) (by decide +kernel) (by decide +kernel) (by decide +kernel) rfl (by (try simp only [ev_sum, ev_nv_cat]); first | done | rfl) ?_
      intro x30 s29 hx30
      replace hx30 := ev_bl_rng hx30
      show ev_w _ _ _ _ _ [.int (Int32.ofInt x30)] _ _ _ _
      refine ev_r_chk ?_
      intro c31
      exact ev_r_ireturn (pc := 35) (x := x30) (v := Int32.ofInt x30) (ty := .boolean) c31 (by decide +kernel) (by decide +kernel) (ev_ret_bl c31) rfl
  · intro c3
    refine ev_r_aload_n (pc := 12) (k := 0) (v := .ref 3) trivial (by decide +kernel) (by exact (ev_lk_st1 (by rfl) (by decide) rfl)) ?_
    refine ev_r_iconst (pc := 13) (k := 3) (by decide +kernel) ?_
    refine ev_r_bipush (pc := 14) (k := 22) (by decide +kernel) (by decide +kernel) ?_
    refine ev_r_iconst (pc := 16) (k := 0) (by decide +kernel) ?_
    refine ev_r_virt (pc := 17) (y := 256) (mi := 103) (na := 3) (k := 3) (as := [.int (Int32.ofInt 3), .int (Int32.ofInt 22), .int (Int32.ofInt 0)]) (rest := []) (encc := ev_oI) (Q := ev_bl) (fun x S1 h => jt_103 d (by omega) Q 3 22 0 (by decide) (by decide) (by decide) s1 x S1 h) (by exact ev_ob_3) (by decide +kernel) (by decide +kernel) (by decide +kernel) (by decide +kernel) rfl (by (try simp only [ev_sum, ev_nv_cat]); first | done | rfl) ?_
    intro x33 s32 hx33
    replace hx33 := ev_bl_rng hx33
    show ev_w _ _ _ _ _ [.int (Int32.ofInt x33)] _ _ _ _
    refine ev_r_chk ?_
    intro c34
    exact ev_r_ireturn (pc := 20) (x := x33) (v := Int32.ofInt x33) (ty := .boolean) c34 (by decide +kernel) (by decide +kernel) (ev_ret_bl c34) rfl
/-- MendBench$Reader.readCondition()Z -/
def jm_106 (Q : Nat)  (S : ev_St) : Option ((Int) × ev_St) := ev_bd (jm_84 Q 2 S) fun x2 s1 => if x2 < 49 then (some (0, s1)) else (if 57 < x2 then (some (0, s1)) else (ev_bd (jm_84 Q 3 s1) fun x6 s5 => if x6 ≠ 41 then (some (0, s5)) else (ev_ck (x2 - 48) fun x8 => ev_bd (jm_103 Q 4 8 x8 s5) fun x10 s9 => if x10 = 0 then (some (0, s9)) else (some (1, s9)))))
theorem jt_106 (d : Nat) (hd : 3 ≤ d) (Q : Nat)   (S : ev_St) (x : Int) (S' : ev_St) (hJ : jm_106 Q  S = some (x, S')) : ev_Ref d 106 [.ref 3] S (ev_eI x) S' (ev_bl x) := by
  obtain ⟨d, rfl⟩ : ∃ e, d = e + 1 := ⟨d - 1, by omega⟩
  refine ev_ref_of (P := ev_bl) (lv := [(0, .ref 3)]) (by decide +kernel) (by (try simp only [ev_sum, ev_nv_cat]); first | done | rfl) (by (try simp only [lv_args, ev_nv_cat]); first | done | rfl) ?_ x S' hJ
  unfold jm_106
  refine ev_r_aload_n (pc := 0) (k := 0) (v := .ref 3) trivial (by decide +kernel) (by rfl) ?_
  refine ev_r_iconst (pc := 1) (k := 2) (by decide +kernel) ?_
  refine ev_r_virt (pc := 2) (y := 108) (mi := 84) (na := 1) (k := 3) (as := [.int (Int32.ofInt 2)]) (rest := []) (encc := ev_oI) (Q := ev_rng) (fun x S1 h => jt_84 d (by omega) Q 2 (by decide) S x S1 h) (by exact ev_ob_3) (by decide +kernel) (by decide +kernel) (by decide +kernel) (by decide +kernel) rfl (by (try simp only [ev_sum, ev_nv_cat]); first | done | rfl) ?_
  intro x2 s1 hx2
  show ev_w _ _ _ _ _ [.int (Int32.ofInt x2)] _ _ _ _
  refine ev_r_istore_n (pc := 5) (k := 1) (by decide +kernel) (by decide +kernel) rfl ?_
  refine ev_r_iload_n (pc := 6) (k := 1) (v := Int32.ofInt x2) (by decide +kernel) (by exact ev_lk_st1_self) ?_
  refine ev_r_bipush (pc := 7) (k := 49) (by decide +kernel) (by decide +kernel) ?_
  refine ev_r_icmp (pc := 9) (q := .lt) (o := 37) (t := 46) (c := x2 < 49) (by decide +kernel) (ev_k_lt hx2 (by decide)) (by decide +kernel) ?_ ?_
  · intro c3
    refine ev_r_iconst (pc := 46) (k := 0) (by decide +kernel) ?_
    exact ev_r_ireturn (pc := 47) (x := 0) (v := Int32.ofInt 0) (ty := .boolean) (by decide : ev_bl 0) (by decide +kernel) (by decide +kernel) (ev_ret_bl (by decide : ev_bl 0)) rfl
  · intro c3
    refine ev_r_iload_n (pc := 12) (k := 1) (v := Int32.ofInt x2) (by decide +kernel) (by exact ev_lk_st1_self) ?_
    refine ev_r_bipush (pc := 13) (k := 57) (by decide +kernel) (by decide +kernel) ?_
    refine ev_r_icmp (pc := 15) (q := .gt) (o := 31) (t := 46) (c := 57 < x2) (by decide +kernel) (ev_k_gt hx2 (by decide)) (by decide +kernel) ?_ ?_
    · intro c4
      refine ev_r_iconst (pc := 46) (k := 0) (by decide +kernel) ?_
      exact ev_r_ireturn (pc := 47) (x := 0) (v := Int32.ofInt 0) (ty := .boolean) (by decide : ev_bl 0) (by decide +kernel) (by decide +kernel) (ev_ret_bl (by decide : ev_bl 0)) rfl
    · intro c4
      refine ev_r_aload_n (pc := 18) (k := 0) (v := .ref 3) trivial (by decide +kernel) (by exact (ev_lk_st1 (by rfl) (by decide) rfl)) ?_
      refine ev_r_iconst (pc := 19) (k := 3) (by decide +kernel) ?_
      refine ev_r_virt (pc := 20) (y := 108) (mi := 84) (na := 1) (k := 3) (as := [.int (Int32.ofInt 3)]) (rest := []) (encc := ev_oI) (Q := ev_rng) (fun x S1 h => jt_84 d (by omega) Q 3 (by decide) s1 x S1 h) (by exact ev_ob_3) (by decide +kernel) (by decide +kernel) (by decide +kernel) (by decide +kernel) rfl (by (try simp only [ev_sum, ev_nv_cat]); first | done | rfl) ?_
      intro x6 s5 hx6
      show ev_w _ _ _ _ _ [.int (Int32.ofInt x6)] _ _ _ _
      refine ev_r_bipush (pc := 23) (k := 41) (by decide +kernel) (by decide +kernel) ?_
      refine ev_r_icmp (pc := 25) (q := .ne) (o := 21) (t := 46) (c := x6 ≠ 41) (by decide +kernel) (ev_k_ne hx6 (by decide)) (by decide +kernel) ?_ ?_
      · intro c7
        refine ev_r_iconst (pc := 46) (k := 0) (by decide +kernel) ?_
        exact ev_r_ireturn (pc := 47) (x := 0) (v := Int32.ofInt 0) (ty := .boolean) (by decide : ev_bl 0) (by decide +kernel) (by decide +kernel) (ev_ret_bl (by decide : ev_bl 0)) rfl
      · intro c7
        refine ev_r_aload_n (pc := 28) (k := 0) (v := .ref 3) trivial (by decide +kernel) (by exact (ev_lk_st1 (by rfl) (by decide) rfl)) ?_
        refine ev_r_iconst (pc := 29) (k := 4) (by decide +kernel) ?_
        refine ev_r_bipush (pc := 30) (k := 8) (by decide +kernel) (by decide +kernel) ?_
        refine ev_r_iload_n (pc := 32) (k := 1) (v := Int32.ofInt x2) (by decide +kernel) (by exact ev_lk_st1_self) ?_
        refine ev_r_bipush (pc := 33) (k := 48) (by decide +kernel) (by decide +kernel) ?_
        refine ev_r_isub (pc := 35) (by decide +kernel) ?_
        intro x8 hx8
        refine ev_r_virt (pc := 36) (y := 256) (mi := 103) (na := 3) (k := 3) (as := [.int (Int32.ofInt 4), .int (Int32.ofInt 8), .int (Int32.ofInt x8)]) (rest := []) (encc := ev_oI) (Q := ev_bl) (fun x S1 h => jt_103 d (by omega) Q 4 8 x8 (by decide) (by decide) hx8 s5 x S1 h) (by exact ev_ob_3) (by decide +kernel) (by decide +kernel) (by decide +kernel) (by decide +kernel) rfl (by (try simp only [ev_sum, ev_nv_cat]); first | done | rfl) ?_
        intro x10 s9 hx10
        replace hx10 := ev_bl_rng hx10
        show ev_w _ _ _ _ _ [.int (Int32.ofInt x10)] _ _ _ _
        refine ev_r_if (pc := 39) (q := .eq) (o := 7) (t := 46) (c := x10 = 0) (by decide +kernel) (ev_k_eq hx10 ev_rng0) (by decide +kernel) ?_ ?_
        · intro c11
          refine ev_r_iconst (pc := 46) (k := 0) (by decide +kernel) ?_
          exact ev_r_ireturn (pc := 47) (x := 0) (v := Int32.ofInt 0) (ty := .boolean) (by decide : ev_bl 0) (by decide +kernel) (by decide +kernel) (ev_ret_bl (by decide : ev_bl 0)) rfl
        · intro c11
          refine ev_r_iconst (pc := 42) (k := 1) (by decide +kernel) ?_
          refine ev_r_goto (pc := 43) (o := 4) (t := 47) (by decide +kernel) (by decide +kernel) ?_
          exact ev_r_ireturn (pc := 47) (x := 1) (v := Int32.ofInt 1) (ty := .boolean) (by decide : ev_bl 1) (by decide +kernel) (by decide +kernel) (ev_ret_bl (by decide : ev_bl 1)) rfl
/-- MendBench$Reader.readInclusion()Z -/
def jm_111 (Q : Nat)  (S : ev_St) : Option ((Int) × ev_St) := ev_bd (jm_84 Q 2 S) fun x2 s1 => ev_bd (jm_209 Q x2 s1) fun x4 s3 => if x4 = 0 then (some (0, s3)) else (ev_bd (jm_84 Q 3 s3) fun x7 s6 => if x7 ≠ 41 then (some (0, s6)) else (ev_b (s6.1 3 12) fun x9 => if x2 ≠ x9 then (ev_ck (x2 - 97) fun x11 => ev_if ((0 : Int) ≤ x11 ∧ x11 < (ev_aln 5 : Int)) (ev_b (s6.1 5 (Int.toNat x11)) fun x12 => if x12 = 0 then (some (0, s6)) else (ev_b (s6.1 3 6) fun x14 => if x14 < 0 then (some (0, s6)) else (ev_b (s6.1 3 6) fun x16 => if 28 ≤ x16 then (some (0, s6)) else (ev_bd (jm_87 Q  s6) fun x19 s18 => if x19 ≠ 0 then (ev_b (s18.1 3 8) fun x21 => ev_ck (x21 + 4) fun x22 => ev_b (ev_pI s18 3 8 x22) fun s23 => ev_b (s23.1 3 6) fun x24 => ev_b (s23.2.2.1 3 7) fun r25 => ev_if (r25 ≠ 0) (ev_if ((0 : Int) ≤ x24 ∧ x24 < (28 : Int)) (ev_b (ev_pR s23 15 (Int.toNat x24) ((r25 - 1) + 1)) fun s26 => ev_b (s26.1 3 6) fun x28 => ev_b (s26.1 3 8) fun x29 => ev_if ((0 : Int) ≤ x28 ∧ x28 < (ev_aln 16 : Int)) (ev_b (ev_pI s26 16 (Int.toNat x28) x29) fun s30 => ev_b (s30.1 3 6) fun x31 => ev_ck (x31 + 1) fun x32 => ev_b (ev_pI s30 3 6 x32) fun s33 => ev_ck (x2 - 97) fun x34 => ev_if ((0 : Int) ≤ x34 ∧ x34 < (26 : Int)) (ev_b (169 + 2 * Int.toNat x34) fun _ => ev_b (ev_pR s33 3 7 (((169 + 2 * Int.toNat x34) + 1))) fun s37 => ev_b (ev_pI s37 3 8 0) fun s38 => ev_bd (jm_98 Q 17 0 1 s38) fun x40 s39 => ev_if (ev_bl x40) (some (x40, s39))))))) else (some (0, s18))))))) else (some (0, s6))))
theorem jt_111 (d : Nat) (hd : 3 ≤ d) (Q : Nat)   (S : ev_St) (x : Int) (S' : ev_St) (hJ : jm_111 Q  S = some (x, S')) : ev_Ref d 111 [.ref 3] S (ev_eI x) S' (ev_bl x) := by
  obtain ⟨d, rfl⟩ : ∃ e, d = e + 1 := ⟨d - 1, by omega⟩
  refine ev_ref_of (P := ev_bl) (lv := [(0, .ref 3)]) (by decide +kernel) (by (try simp only [ev_sum, ev_nv_cat]); first | done | rfl) (by (try simp only [lv_args, ev_nv_cat]); first | done | rfl) ?_ x S' hJ
  unfold jm_111
  refine ev_r_aload_n (pc := 0) (k := 0) (v := .ref 3) trivial (by decide +kernel) (by rfl) ?_
  refine ev_r_iconst (pc := 1) (k := 2) (by decide +kernel) ?_
  refine ev_r_virt (pc := 2) (y := 108) (mi := 84) (na := 1) (k := 3) (as := [.int (Int32.ofInt 2)]) (rest := []) (encc := ev_oI) (Q := ev_rng) (fun x S1 h => jt_84 d (by omega) Q 2 (by decide) S x S1 h) (by exact ev_ob_3) (by decide +kernel) (by decide +kernel) (by decide +kernel) (by decide +kernel) rfl (by (try simp only [ev_sum, ev_nv_cat]); first | done | rfl) ?_
  intro x2 s1 hx2
  show ev_w _ _ _ _ _ [.int (Int32.ofInt x2)] _ _ _ _
  refine ev_r_istore_n (pc := 5) (k := 1) (by decide +kernel) (by decide +kernel) rfl ?_
  refine ev_r_iload_n (pc := 6) (k := 1) (v := Int32.ofInt x2) (by decide +kernel) (by exact ev_lk_st1_self) ?_
  refine ev_r_stat (pc := 7) (y := 43) (kind := 5) (mi := 209) (na := 1) (as := [.int (Int32.ofInt x2)]) (rest := []) (encc := ev_oI) (Q := ev_bl) (fun x S1 h => jt_209 d (by omega) Q x2 hx2 s1 x S1 h) (Or.inr (Or.inl rfl)) (by decide +kernel) (by decide +kernel) (by decide +kernel) (by decide +kernel) rfl (by (try simp only [ev_sum, ev_nv_cat]); first | done | rfl) ?_
  intro x4 s3 hx4
  replace hx4 := ev_bl_rng hx4
  show ev_w _ _ _ _ _ [.int (Int32.ofInt x4)] _ _ _ _
  refine ev_r_if (pc := 10) (q := .eq) (o := 21) (t := 31) (c := x4 = 0) (by decide +kernel) (ev_k_eq hx4 ev_rng0) (by decide +kernel) ?_ ?_
  · intro c5
    refine ev_r_iconst (pc := 31) (k := 0) (by decide +kernel) ?_
    exact ev_r_ireturn (pc := 32) (x := 0) (v := Int32.ofInt 0) (ty := .boolean) (by decide : ev_bl 0) (by decide +kernel) (by decide +kernel) (ev_ret_bl (by decide : ev_bl 0)) rfl
  · intro c5
    refine ev_r_aload_n (pc := 13) (k := 0) (v := .ref 3) trivial (by decide +kernel) (by exact (ev_lk_st1 (by rfl) (by decide) rfl)) ?_
    refine ev_r_iconst (pc := 14) (k := 3) (by decide +kernel) ?_
    refine ev_r_virt (pc := 15) (y := 108) (mi := 84) (na := 1) (k := 3) (as := [.int (Int32.ofInt 3)]) (rest := []) (encc := ev_oI) (Q := ev_rng) (fun x S1 h => jt_84 d (by omega) Q 3 (by decide) s3 x S1 h) (by exact ev_ob_3) (by decide +kernel) (by decide +kernel) (by decide +kernel) (by decide +kernel) rfl (by (try simp only [ev_sum, ev_nv_cat]); first | done | rfl) ?_
    intro x7 s6 hx7
    show ev_w _ _ _ _ _ [.int (Int32.ofInt x7)] _ _ _ _
    refine ev_r_bipush (pc := 18) (k := 41) (by decide +kernel) (by decide +kernel) ?_
    refine ev_r_icmp (pc := 20) (q := .ne) (o := 11) (t := 31) (c := x7 ≠ 41) (by decide +kernel) (ev_k_ne hx7 (by decide)) (by decide +kernel) ?_ ?_
    · intro c8
      refine ev_r_iconst (pc := 31) (k := 0) (by decide +kernel) ?_
      exact ev_r_ireturn (pc := 32) (x := 0) (v := Int32.ofInt 0) (ty := .boolean) (by decide : ev_bl 0) (by decide +kernel) (by decide +kernel) (ev_ret_bl (by decide : ev_bl 0)) rfl
    · intro c8
      refine ev_r_iload_n (pc := 23) (k := 1) (v := Int32.ofInt x2) (by decide +kernel) (by exact ev_lk_st1_self) ?_
      refine ev_r_aload_n (pc := 24) (k := 0) (v := .ref 3) trivial (by decide +kernel) (by exact (ev_lk_st1 (by rfl) (by decide) rfl)) ?_
      refine ev_r_getI (pc := 25) (y := 59) (ci := 7) (f := 12) (fin := 0) (by decide +kernel) (by decide +kernel) (by exact ev_ob_3) rfl ?_
      intro x9 hx9
      refine ev_r_icmp (pc := 28) (q := .ne) (o := 5) (t := 33) (c := x2 ≠ x9) (by decide +kernel) (ev_k_ne hx2 hx9) (by decide +kernel) ?_ ?_
      · intro c10
        refine ev_r_aload_n (pc := 33) (k := 0) (v := .ref 3) trivial (by decide +kernel) (by exact (ev_lk_st1 (by rfl) (by decide) rfl)) ?_
        refine ev_r_getC (pc := 34) (y := 17) (ci := 7) (f := 1) (fin := 1) (k' := 5) (by decide +kernel) (by decide +kernel) (by exact ev_ob_3) rfl rfl ?_
        refine ev_r_iload_n (pc := 37) (k := 1) (v := Int32.ofInt x2) (by decide +kernel) (by exact ev_lk_st1_self) ?_
        refine ev_r_bipush (pc := 38) (k := 97) (by decide +kernel) (by decide +kernel) ?_
        refine ev_r_isub (pc := 40) (by decide +kernel) ?_
        intro x11 hx11
        refine ev_r_bald (pc := 41) (ty := .boolean) (Or.inr rfl) hx11 (by decide +kernel) (by exact ev_ab_5) ?_
        intro x12 hx12
        refine ev_r_if (pc := 42) (q := .eq) (o := 26) (t := 68) (c := x12 = 0) (by decide +kernel) (ev_k_eq hx12 ev_rng0) (by decide +kernel) ?_ ?_
        · intro c13
          refine ev_r_iconst (pc := 68) (k := 0) (by decide +kernel) ?_
          exact ev_r_ireturn (pc := 69) (x := 0) (v := Int32.ofInt 0) (ty := .boolean) (by decide : ev_bl 0) (by decide +kernel) (by decide +kernel) (ev_ret_bl (by decide : ev_bl 0)) rfl
        · intro c13
          refine ev_r_aload_n (pc := 45) (k := 0) (v := .ref 3) trivial (by decide +kernel) (by exact (ev_lk_st1 (by rfl) (by decide) rfl)) ?_
          refine ev_r_getI (pc := 46) (y := 66) (ci := 7) (f := 6) (fin := 0) (by decide +kernel) (by decide +kernel) (by exact ev_ob_3) rfl ?_
          intro x14 hx14
          refine ev_r_if (pc := 49) (q := .lt) (o := 19) (t := 68) (c := x14 < 0) (by decide +kernel) (ev_k_lt hx14 ev_rng0) (by decide +kernel) ?_ ?_
          · intro c15
            refine ev_r_iconst (pc := 68) (k := 0) (by decide +kernel) ?_
            exact ev_r_ireturn (pc := 69) (x := 0) (v := Int32.ofInt 0) (ty := .boolean) (by decide : ev_bl 0) (by decide +kernel) (by decide +kernel) (ev_ret_bl (by decide : ev_bl 0)) rfl
          · intro c15
            refine ev_r_aload_n (pc := 52) (k := 0) (v := .ref 3) trivial (by decide +kernel) (by exact (ev_lk_st1 (by rfl) (by decide) rfl)) ?_
            refine ev_r_getI (pc := 53) (y := 66) (ci := 7) (f := 6) (fin := 0) (by decide +kernel) (by decide +kernel) (by exact ev_ob_3) rfl ?_
            intro x16 hx16
            refine ev_r_bipush (pc := 56) (k := 28) (by decide +kernel) (by decide +kernel) ?_
            refine ev_r_icmp (pc := 58) (q := .ge) (o := 10) (t := 68) (c := 28 ≤ x16) (by decide +kernel) (ev_k_ge hx16 (by decide)) (by decide +kernel) ?_ ?_
            · intro c17
              refine ev_r_iconst (pc := 68) (k := 0) (by decide +kernel) ?_
              exact ev_r_ireturn (pc := 69) (x := 0) (v := Int32.ofInt 0) (ty := .boolean) (by decide : ev_bl 0) (by decide +kernel) (by decide +kernel) (ev_ret_bl (by decide : ev_bl 0)) rfl
            · intro c17
              refine ev_r_aload_n (pc := 61) (k := 0) (v := .ref 3) trivial (by decide +kernel) (by exact (ev_lk_st1 (by rfl) (by decide) rfl)) ?_
              refine ev_r_virt (pc := 62) (y := 162) (mi := 87) (na := 0) (k := 3) (as := []) (rest := []) (encc := ev_oI) (Q := ev_bl) (fun x S1 h => jt_87 d (by omega) Q   s6 x S1 h) (by exact ev_ob_3) (by decide +kernel) (by decide +kernel) (by decide +kernel) (by decide +kernel) rfl (by (try simp only [ev_sum, ev_nv_cat]); first | done | rfl) ?_
              intro x19 s18 hx19
              replace hx19 := ev_bl_rng hx19
              show ev_w _ _ _ _ _ [.int (Int32.ofInt x19)] _ _ _ _
              refine ev_r_if (pc := 65) (q := .ne) (o := 5) (t := 70) (c := x19 ≠ 0) (by decide +kernel) (ev_k_ne hx19 ev_rng0) (by decide +kernel) ?_ ?_
              · intro c20
                refine ev_r_aload_n (pc := 70) (k := 0) (v := .ref 3) trivial (by decide +kernel) (by exact (ev_lk_st1 (by rfl) (by decide) rfl)) ?_
                refine ev_r_dup (pc := 71) rfl (by decide +kernel) ?_
                refine ev_r_getI (pc := 72) (y := 63) (ci := 7) (f := 8) (fin := 0) (by decide +kernel) (by decide +kernel) (by exact ev_ob_3) rfl ?_
                intro x21 hx21
                refine ev_r_iconst (pc := 75) (k := 4) (by decide +kernel) ?_
                refine ev_r_iadd (pc := 76) (by decide +kernel) ?_
                intro x22 hx22
                refine ev_r_putI (pc := 77) (y := 63) (ci := 7) (f := 8) hx22 (by decide +kernel) (by decide +kernel) (by exact ev_ob_3) rfl rfl ?_
                intro s23
                refine ev_r_aload_n (pc := 80) (k := 0) (v := .ref 3) trivial (by decide +kernel) (by exact (ev_lk_st1 (by rfl) (by decide) rfl)) ?_
                refine ev_r_getC (pc := 81) (y := 34) (ci := 7) (f := 4) (fin := 1) (k' := 15) (by decide +kernel) (by decide +kernel) (by exact ev_ob_3) rfl rfl ?_
                refine ev_r_aload_n (pc := 84) (k := 0) (v := .ref 3) trivial (by decide +kernel) (by exact (ev_lk_st1 (by rfl) (by decide) rfl)) ?_
                refine ev_r_getI (pc := 85) (y := 66) (ci := 7) (f := 6) (fin := 0) (by decide +kernel) (by decide +kernel) (by exact ev_ob_3) rfl ?_
                intro x24 hx24
                refine ev_r_aload_n (pc := 88) (k := 0) (v := .ref 3) trivial (by decide +kernel) (by exact (ev_lk_st1 (by rfl) (by decide) rfl)) ?_
                refine ev_r_getR (pc := 89) (y := 51) (ci := 7) (f := 7) (fin := 0) (t := 10) (by decide +kernel) (by decide +kernel) (by exact ev_ob_3) rfl rfl ?_
                intro r25 hr25
                have hr25 : r25 = 0 ∨ ev_isOb (r25 - 1) 10 = true := hr25
                refine ev_r_chk ?_
                intro c27
                refine ev_r_dr (r := r25) (fun v => [v, .int (Int32.ofInt x24), .ref 15]) c27 ?_
                refine ev_r_ast15 (pc := 92) (by exact (hr25.resolve_left c27)) hx24 (by decide +kernel) ?_
                intro s26
                refine ev_r_aload_n (pc := 93) (k := 0) (v := .ref 3) trivial (by decide +kernel) (by exact (ev_lk_st1 (by rfl) (by decide) rfl)) ?_
                refine ev_r_getC (pc := 94) (y := 37) (ci := 7) (f := 5) (fin := 1) (k' := 16) (by decide +kernel) (by decide +kernel) (by exact ev_ob_3) rfl rfl ?_
                refine ev_r_aload_n (pc := 97) (k := 0) (v := .ref 3) trivial (by decide +kernel) (by exact (ev_lk_st1 (by rfl) (by decide) rfl)) ?_
                refine ev_r_getI (pc := 98) (y := 66) (ci := 7) (f := 6) (fin := 0) (by decide +kernel) (by decide +kernel) (by exact ev_ob_3) rfl ?_
                intro x28 hx28
                refine ev_r_aload_n (pc := 101) (k := 0) (v := .ref 3) trivial (by decide +kernel) (by exact (ev_lk_st1 (by rfl) (by decide) rfl)) ?_
                refine ev_r_getI (pc := 102) (y := 63) (ci := 7) (f := 8) (fin := 0) (by decide +kernel) (by decide +kernel) (by exact ev_ob_3) rfl ?_
                intro x29 hx29
                refine ev_r_iast (pc := 105) hx29 hx28 (by decide +kernel) (by exact ev_ab_16) ?_
                intro s30
                refine ev_r_aload_n (pc := 106) (k := 0) (v := .ref 3) trivial (by decide +kernel) (by exact (ev_lk_st1 (by rfl) (by decide) rfl)) ?_
                refine ev_r_dup (pc := 107) rfl (by decide +kernel) ?_
                refine ev_r_getI (pc := 108) (y := 66) (ci := 7) (f := 6) (fin := 0) (by decide +kernel) (by decide +kernel) (by exact ev_ob_3) rfl ?_
                intro x31 hx31
                refine ev_r_iconst (pc := 111) (k := 1) (by decide +kernel) ?_
                refine ev_r_iadd (pc := 112) (by decide +kernel) ?_
                intro x32 hx32
                refine ev_r_putI (pc := 113) (y := 66) (ci := 7) (f := 6) hx32 (by decide +kernel) (by decide +kernel) (by exact ev_ob_3) rfl rfl ?_
                intro s33
                refine ev_r_aload_n (pc := 116) (k := 0) (v := .ref 3) trivial (by decide +kernel) (by exact (ev_lk_st1 (by rfl) (by decide) rfl)) ?_
                refine ev_r_aload_n (pc := 117) (k := 0) (v := .ref 3) trivial (by decide +kernel) (by exact (ev_lk_st1 (by rfl) (by decide) rfl)) ?_
                refine ev_r_getC (pc := 118) (y := 11) (ci := 7) (f := 0) (fin := 1) (k' := 4) (by decide +kernel) (by decide +kernel) (by exact ev_ob_3) rfl rfl ?_
                refine ev_r_iload_n (pc := 121) (k := 1) (v := Int32.ofInt x2) (by decide +kernel) (by exact ev_lk_st1_self) ?_
                refine ev_r_bipush (pc := 122) (k := 97) (by decide +kernel) (by decide +kernel) ?_
                refine ev_r_isub (pc := 124) (by decide +kernel) ?_
                intro x34 hx34
                refine ev_r_aald (pc := 125) (N := 26) (b := 169) (c := 2) (C := "MendBench$Text") hx34 (by decide +kernel) (by decide +kernel) ?_
                intro c35
                refine ev_r_putR (pc := 126) (y := 51) (ci := 7) (f := 7) (r := ((169 + 2 * Int.toNat x34) + 1)) (t := 10) (by exact (Or.inr (ev_el_4 c35))) (by decide +kernel) (by decide +kernel) (by exact ev_ob_3) rfl rfl rfl ?_
                intro s37
                refine ev_r_aload_n (pc := 129) (k := 0) (v := .ref 3) trivial (by decide +kernel) (by exact (ev_lk_st1 (by rfl) (by decide) rfl)) ?_
                refine ev_r_iconst (pc := 130) (k := 0) (by decide +kernel) ?_
                refine ev_r_putI (pc := 131) (y := 63) (ci := 7) (f := 8) (by decide) (by decide +kernel) (by decide +kernel) (by exact ev_ob_3) rfl rfl ?_
                intro s38
                refine ev_r_aload_n (pc := 134) (k := 0) (v := .ref 3) trivial (by decide +kernel) (by exact (ev_lk_st1 (by rfl) (by decide) rfl)) ?_
                refine ev_r_bipush (pc := 135) (k := 17) (by decide +kernel) (by decide +kernel) ?_
                refine ev_r_iconst (pc := 137) (k := 0) (by decide +kernel) ?_
                refine ev_r_iconst (pc := 138) (k := 1) (by decide +kernel) ?_
                refine ev_r_virt (pc := 139) (y := 83) (mi := 98) (na := 3) (k := 3) (as := [.int (Int32.ofInt 17), .int (Int32.ofInt 0), .int (Int32.ofInt 1)]) (rest := []) (encc := ev_oI) (Q := ev_bl) (fun x S1 h => jt_98 d (by omega) Q 17 0 1 (by decide) (by decide) (by decide) s38 x S1 h) (by exact ev_ob_3) (by decide +kernel) (by decide +kernel) (by decide +kernel) (by decide +kernel) rfl (by (try simp only [ev_sum, ev_nv_cat]); first | done | rfl) ?_
                intro x40 s39 hx40
                replace hx40 := ev_bl_rng hx40
                show ev_w _ _ _ _ _ [.int (Int32.ofInt x40)] _ _ _ _
                refine ev_r_chk ?_
                intro c41
                exact ev_r_ireturn (pc := 142) (x := x40) (v := Int32.ofInt x40) (ty := .boolean) c41 (by decide +kernel) (by decide +kernel) (ev_ret_bl c41) rfl
              · intro c20
                refine ev_r_iconst (pc := 68) (k := 0) (by decide +kernel) ?_
                exact ev_r_ireturn (pc := 69) (x := 0) (v := Int32.ofInt 0) (ty := .boolean) (by decide : ev_bl 0) (by decide +kernel) (by decide +kernel) (ev_ret_bl (by decide : ev_bl 0)) rfl
      · intro c10
        refine ev_r_iconst (pc := 31) (k := 0) (by decide +kernel) ?_
        exact ev_r_ireturn (pc := 32) (x := 0) (v := Int32.ofInt 0) (ty := .boolean) (by decide : ev_bl 0) (by decide +kernel) (by decide +kernel) (ev_ret_bl (by decide : ev_bl 0)) rfl
/-- MendBench$Reader.switchOf(I)I -/
def jm_110 (Q : Nat) (a0 : Int) (S : ev_St) : Option ((Int) × ev_St) := if a0 ≠ 105 then (if a0 ≠ 115 then (if a0 ≠ 109 then (some (0, S)) else (some (4, S))) else (some (2, S))) else (some (1, S))
theorem jt_110 (d : Nat) (hd : 1 ≤ d) (Q : Nat) (a0 : Int) (ha0 : ev_rng a0) (S : ev_St) (x : Int) (S' : ev_St) (hJ : jm_110 Q a0 S = some (x, S')) : ev_Ref d 110 [.int (Int32.ofInt a0)] S (ev_eI x) S' (ev_rng x) := by
  obtain ⟨d, rfl⟩ : ∃ e, d = e + 1 := ⟨d - 1, by omega⟩
  refine ev_ref_of (P := ev_rng) (lv := [(0, .int (Int32.ofInt a0))]) (by decide +kernel) (by (try simp only [ev_sum, ev_nv_cat]); first | done | rfl) (by (try simp only [lv_args, ev_nv_cat]); first | done | rfl) ?_ x S' hJ
  unfold jm_110
  refine ev_r_iload_n (pc := 0) (k := 0) (v := Int32.ofInt a0) (by decide +kernel) (by rfl) ?_
  refine ev_r_bipush (pc := 1) (k := 105) (by decide +kernel) (by decide +kernel) ?_
  refine ev_r_icmp (pc := 3) (q := .ne) (o := 7) (t := 10) (c := a0 ≠ 105) (by decide +kernel) (ev_k_ne ha0 (by decide)) (by decide +kernel) ?_ ?_
  · intro c1
    refine ev_r_iload_n (pc := 10) (k := 0) (v := Int32.ofInt a0) (by decide +kernel) (by rfl) ?_
    refine ev_r_bipush (pc := 11) (k := 115) (by decide +kernel) (by decide +kernel) ?_
    refine ev_r_icmp (pc := 13) (q := .ne) (o := 7) (t := 20) (c := a0 ≠ 115) (by decide +kernel) (ev_k_ne ha0 (by decide)) (by decide +kernel) ?_ ?_
    · intro c2
      refine ev_r_iload_n (pc := 20) (k := 0) (v := Int32.ofInt a0) (by decide +kernel) (by rfl) ?_
      refine ev_r_bipush (pc := 21) (k := 109) (by decide +kernel) (by decide +kernel) ?_
      refine ev_r_icmp (pc := 23) (q := .ne) (o := 7) (t := 30) (c := a0 ≠ 109) (by decide +kernel) (ev_k_ne ha0 (by decide)) (by decide +kernel) ?_ ?_
      · intro c3
        refine ev_r_iconst (pc := 30) (k := 0) (by decide +kernel) ?_
        exact ev_r_ireturn (pc := 31) (x := 0) (v := Int32.ofInt 0) (ty := .int) (by decide) (by decide +kernel) (by decide +kernel) rfl rfl
      · intro c3
        refine ev_r_iconst (pc := 26) (k := 4) (by decide +kernel) ?_
        refine ev_r_goto (pc := 27) (o := 4) (t := 31) (by decide +kernel) (by decide +kernel) ?_
        exact ev_r_ireturn (pc := 31) (x := 4) (v := Int32.ofInt 4) (ty := .int) (by decide) (by decide +kernel) (by decide +kernel) rfl rfl
    · intro c2
      refine ev_r_iconst (pc := 16) (k := 2) (by decide +kernel) ?_
      refine ev_r_goto (pc := 17) (o := 14) (t := 31) (by decide +kernel) (by decide +kernel) ?_
      exact ev_r_ireturn (pc := 31) (x := 2) (v := Int32.ofInt 2) (ty := .int) (by decide) (by decide +kernel) (by decide +kernel) rfl rfl
  · intro c1
    refine ev_r_iconst (pc := 6) (k := 1) (by decide +kernel) ?_
    refine ev_r_goto (pc := 7) (o := 24) (t := 31) (by decide +kernel) (by decide +kernel) ?_
    exact ev_r_ireturn (pc := 31) (x := 1) (v := Int32.ofInt 1) (ty := .int) (by decide) (by decide +kernel) (by decide +kernel) rfl rfl
def jb_109_12 (Q : Nat)   (K12 : Int → Int → Int → Int → Int → ev_St → Option ((Int) × ev_St)) (x1 : Int) (x2 : Int) (x3 : Int) (x4 : Int) (x5 : Int) (s13 : ev_St) : Option ((Int) × ev_St) := ev_jn (fun  (s20 : ev_St) => ev_bd (jm_84 Q x4 s20) fun x22 s21 => ev_jn (fun (x23 : Int) (x24 : Int) (s31 : ev_St) => if x24 = 0 then (some (0, s31)) else (ev_jn (fun  (s39 : ev_St) => ev_b (s39.1 3 8) fun x40 => ev_ck (x4 + 1) fun x41 => ev_ck (x40 + x41) fun x42 => ev_b (ev_pI s39 3 8 x42) fun s43 => ev_jn (fun  (s48 : ev_St) => ev_b (s48.1 3 11) fun x49 => ev_b (ev_ior x49 x1) fun x50 => ev_b (ev_ixor x2 ((-1))) fun x51 => ev_b (ev_iand x50 x51) fun x52 => ev_b (ev_pI s48 3 11 x52) fun s53 => ev_b (ev_pI s53 3 13 0) fun s54 => some (1, s54)) fun K160 => if x23 ≠ 58 then (K160  s43) else (ev_bd (jm_103 Q 0 17 0 s43) fun x57 s56 => if x57 ≠ 0 then (K160  s56) else (some (0, s56)))) fun K127 => if x23 = 41 then (K127  s31) else (if x23 = 58 then (K127  s31) else (some (0, s31))))) fun K108 => if x3 = 0 then (K108 x22 x1 s21) else (K108 x22 x2 s21)) fun K91 => if 160 ≤ x5 then (K91  s13) else (ev_bd (jm_84 Q x4 s13) fun x64 s63 => ev_bd (jm_110 Q x64 s63) fun x66 s65 => ev_jn (fun (x67 : Int) (s76 : ev_St) => ev_jn (fun (x77 : Int) (x78 : Int) (x79 : Int) (s87 : ev_St) => ev_ck (x4 + 1) fun x88 => ev_ck (x5 + 1) fun x89 => K12 x77 x78 x79 x88 x89 s87) fun K82 => if x3 = 0 then (ev_b (ev_ior x1 x67) fun x91 => ev_jn (fun (x92 : Int) (x93 : Int) (s100 : ev_St) => K82 x92 x2 x93 s100) fun K81 => if x67 ≠ 0 then (K81 x91 0 s76) else (K81 x91 1 s76)) else (ev_b (ev_ior x2 x67) fun x102 => K82 x1 x102 x3 s76)) fun K54 => if x66 ≠ 0 then (K54 x66 s65) else (ev_bd (jm_84 Q x4 s65) fun x105 s104 => if x105 ≠ 45 then (K91  s104) else (if x3 = 0 then (K54 x66 s104) else (K91  s104))))
def jl_109_12 (Q : Nat)   : Nat → Int → Int → Int → Int → Int → ev_St → Option ((Int) × ev_St)
  | 0 => fun _ _ _ _ _ _ => none
  | q + 1 => jb_109_12 Q   (jl_109_12 Q   q)
theorem jbt_109_12 (d : Nat) (hd : 3 ≤ d + 1) (Q : Nat)     (K12 : Int → Int → Int → Int → Int → ev_St → Option ((Int) × ev_St)) (hK12 : ∀ (x1 : Int) (hx1 : ev_rng x1), ∀ (x2 : Int) (hx2 : ev_rng x2), ∀ (x3 : Int) (hx3 : ev_rng x3), ∀ (x4 : Int) (hx4 : ev_rng x4), ∀ (x5 : Int) (hx5 : ev_rng x5), ∀ (s13 : ev_St) (w6 : List (Nat × Value)), ev_lk w6 0 = some (.ref 3) → ev_lk w6 1 = some (.int (Int32.ofInt x1)) → ev_lk w6 2 = some (.int (Int32.ofInt x2)) → ev_lk w6 3 = some (.int (Int32.ofInt x3)) → ev_lk w6 4 = some (.int (Int32.ofInt x4)) → ev_lk w6 5 = some (.int (Int32.ofInt x5)) → ev_w none (ev_Mof 109) d 12 w6 [] s13 (K12 x1 x2 x3 x4 x5 s13) ev_eI ev_bl) : ∀ (x1 : Int) (hx1 : ev_rng x1), ∀ (x2 : Int) (hx2 : ev_rng x2), ∀ (x3 : Int) (hx3 : ev_rng x3), ∀ (x4 : Int) (hx4 : ev_rng x4), ∀ (x5 : Int) (hx5 : ev_rng x5), ∀ (s13 : ev_St) (w6 : List (Nat × Value)), ev_lk w6 0 = some (.ref 3) → ev_lk w6 1 = some (.int (Int32.ofInt x1)) → ev_lk w6 2 = some (.int (Int32.ofInt x2)) → ev_lk w6 3 = some (.int (Int32.ofInt x3)) → ev_lk w6 4 = some (.int (Int32.ofInt x4)) → ev_lk w6 5 = some (.int (Int32.ofInt x5)) → ev_w none (ev_Mof 109) d 12 w6 [] s13 (jb_109_12 Q   K12 x1 x2 x3 x4 x5 s13) ev_eI ev_bl := by
  intro x1 hx1 x2 hx2 x3 hx3 x4 hx4 x5 hx5 s13 w6 e7 e8 e9 e10 e11 e12
  unfold jb_109_12
  refine ev_r_iload (pc := 12) (k := 5) (v := Int32.ofInt x5) (by decide +kernel) (by exact e12) ?_
  refine ev_r_sipush (pc := 14) (k := 160) (by decide +kernel) (by decide +kernel) ?_
  refine ev_r_jn (Q := fun K => ∀ (s20 : ev_St) (w14 : List (Nat × Value)), ev_lk w14 0 = some (.ref 3) → ev_lk w14 1 = some (.int (Int32.ofInt x1)) → ev_lk w14 2 = some (.int (Int32.ofInt x2)) → ev_lk w14 3 = some (.int (Int32.ofInt x3)) → ev_lk w14 4 = some (.int (Int32.ofInt x4)) → ev_w none (ev_Mof 109) d 91 w14 [] s20 (K  s20) ev_eI ev_bl) ?_ ?_
  · intro  s20 w14 e15 e16 e17 e18 e19
    refine ev_r_aload_n (pc := 91) (k := 0) (v := .ref 3) trivial (by decide +kernel) (by exact e15) ?_
    refine ev_r_iload (pc := 92) (k := 4) (v := Int32.ofInt x4) (by decide +kernel) (by exact e19) ?_
    refine ev_r_virt (pc := 94) (y := 108) (mi := 84) (na := 1) (k := 3) (as := [.int (Int32.ofInt x4)]) (rest := []) (encc := ev_oI) (Q := ev_rng) (fun x S1 h => jt_84 d (by omega) Q x4 hx4 s20 x S1 h) (by exact ev_ob_3) (by decide +kernel) (by decide +kernel) (by decide +kernel) (by decide +kernel) rfl (by (try simp only [ev_sum, ev_nv_cat]); first | done | rfl) ?_
    intro x22 s21 hx22
    show ev_w _ _ _ _ _ [.int (Int32.ofInt x22)] _ _ _ _
    refine ev_r_istore (pc := 97) (k := 5) (by decide +kernel) (by decide +kernel) rfl ?_
    refine ev_r_iload_n (pc := 99) (k := 3) (v := Int32.ofInt x3) (by decide +kernel) (by exact (ev_l1 e18 (by decide) (by decide))) ?_
    refine ev_r_jn (Q := fun K => ∀ (x23 : Int) (hx23 : ev_rng x23), ∀ (x24 : Int) (hx24 : ev_rng x24), ∀ (s31 : ev_St) (w25 : List (Nat × Value)), ev_lk w25 0 = some (.ref 3) → ev_lk w25 1 = some (.int (Int32.ofInt x1)) → ev_lk w25 2 = some (.int (Int32.ofInt x2)) → ev_lk w25 4 = some (.int (Int32.ofInt x4)) → ev_lk w25 5 = some (.int (Int32.ofInt x23)) → ev_w none (ev_Mof 109) d 108 w25 [.int (Int32.ofInt x24)] s31 (K x23 x24 s31) ev_eI ev_bl) ?_ ?_
    · intro x23 hx23 x24 hx24 s31 w25 e26 e27 e28 e29 e30
      refine ev_r_if (pc := 108) (q := .eq) (o := 17) (t := 125) (c := x24 = 0) (by decide +kernel) (ev_k_eq hx24 ev_rng0) (by decide +kernel) ?_ ?_
      · intro c32
        refine ev_r_iconst (pc := 125) (k := 0) (by decide +kernel) ?_
        exact ev_r_ireturn (pc := 126) (x := 0) (v := Int32.ofInt 0) (ty := .boolean) (by decide : ev_bl 0) (by decide +kernel) (by decide +kernel) (ev_ret_bl (by decide : ev_bl 0)) rfl
      · intro c32
        refine ev_r_iload (pc := 111) (k := 5) (v := Int32.ofInt x23) (by decide +kernel) (by exact e30) ?_
        refine ev_r_bipush (pc := 113) (k := 41) (by decide +kernel) (by decide +kernel) ?_
        refine ev_r_jn (Q := fun K => ∀ (s39 : ev_St) (w33 : List (Nat × Value)), ev_lk w33 0 = some (.ref 3) → ev_lk w33 1 = some (.int (Int32.ofInt x1)) → ev_lk w33 2 = some (.int (Int32.ofInt x2)) → ev_lk w33 4 = some (.int (Int32.ofInt x4)) → ev_lk w33 5 = some (.int (Int32.ofInt x23)) → ev_w none (ev_Mof 109) d 127 w33 [] s39 (K  s39) ev_eI ev_bl) ?_ ?_
        · intro  s39 w33 e34 e35 e36 e37 e38
          refine ev_r_aload_n (pc := 127) (k := 0) (v := .ref 3) trivial (by decide +kernel) (by exact e34) ?_
          refine ev_r_dup (pc := 128) rfl (by decide +kernel) ?_
          refine ev_r_getI (pc := 129) (y := 63) (ci := 7) (f := 8) (fin := 0) (by decide +kernel) (by decide +kernel) (by exact ev_ob_3) rfl ?_
          intro x40 hx40
          refine ev_r_iload (pc := 132) (k := 4) (v := Int32.ofInt x4) (by decide +kernel) (by exact e37) ?_
          refine ev_r_iconst (pc := 134) (k := 1) (by decide +kernel) ?_
          refine ev_r_iadd (pc := 135) (by decide +kernel) ?_
          intro x41 hx41
          refine ev_r_iadd (pc := 136) (by decide +kernel) ?_
          intro x42 hx42
          refine ev_r_putI (pc := 137) (y := 63) (ci := 7) (f := 8) hx42 (by decide +kernel) (by decide +kernel) (by exact ev_ob_3) rfl rfl ?_
          intro s43
          refine ev_r_iload (pc := 140) (k := 5) (v := Int32.ofInt x23) (by decide +kernel) (by exact e38) ?_
          refine ev_r_bipush (pc := 142) (k := 58) (by decide +kernel) (by decide +kernel) ?_
          refine ev_r_jn (Q := fun K => ∀ (s48 : ev_St) (w44 : List (Nat × Value)), ev_lk w44 0 = some (.ref 3) → ev_lk w44 1 = some (.int (Int32.ofInt x1)) → ev_lk w44 2 = some (.int (Int32.ofInt x2)) → ev_w none (ev_Mof 109) d 160 w44 [] s48 (K  s48) ev_eI ev_bl) ?_ ?_
          · intro  s48 w44 e45 e46 e47
            refine ev_r_aload_n (pc := 160) (k := 0) (v := .ref 3) trivial (by decide +kernel) (by exact e45) ?_
            refine ev_r_aload_n (pc := 161) (k := 0) (v := .ref 3) trivial (by decide +kernel) (by exact e45) ?_
            refine ev_r_getI (pc := 162) (y := 72) (ci := 7) (f := 11) (fin := 0) (by decide +kernel) (by decide +kernel) (by exact ev_ob_3) rfl ?_
            intro x49 hx49
            refine ev_r_iload_n (pc := 165) (k := 1) (v := Int32.ofInt x1) (by decide +kernel) (by exact e46) ?_
            refine ev_r_ior (pc := 166) (by decide +kernel) ?_
            intro x50 hx50
            refine ev_r_iload_n (pc := 167) (k := 2) (v := Int32.ofInt x2) (by decide +kernel) (by exact e47) ?_
            refine ev_r_iconst (pc := 168) (k := -1) (by decide +kernel) ?_
            refine ev_r_ixor (pc := 169) (by decide +kernel) ?_
            intro x51 hx51
            refine ev_r_iand (pc := 170) (by decide +kernel) ?_
            intro x52 hx52
            refine ev_r_putI (pc := 171) (y := 72) (ci := 7) (f := 11) hx52 (by decide +kernel) (by decide +kernel) (by exact ev_ob_3) rfl rfl ?_
            intro s53
            refine ev_r_aload_n (pc := 174) (k := 0) (v := .ref 3) trivial (by decide +kernel) (by exact e45) ?_
            refine ev_r_iconst (pc := 175) (k := 0) (by decide +kernel) ?_
            refine ev_r_putI (pc := 176) (y := 165) (ci := 7) (f := 13) (by decide) (by decide +kernel) (by decide +kernel) (by exact ev_ob_3) rfl (ev_fit_bl (by decide : ev_bl 0)) ?_
            intro s54
            refine ev_r_iconst (pc := 179) (k := 1) (by decide +kernel) ?_
            exact ev_r_ireturn (pc := 180) (x := 1) (v := Int32.ofInt 1) (ty := .boolean) (by decide : ev_bl 1) (by decide +kernel) (by decide +kernel) (ev_ret_bl (by decide : ev_bl 1)) rfl
          · intro K160 hK160
            refine ev_r_icmp (pc := 144) (q := .ne) (o := 16) (t := 160) (c := x23 ≠ 58) (by decide +kernel) (ev_k_ne hx23 (by decide)) (by decide +kernel) ?_ ?_
            · intro c55
              exact hK160  s43 _ (by exact e34) (by exact e35) (by exact e36)
            · intro c55
              refine ev_r_aload_n (pc := 147) (k := 0) (v := .ref 3) trivial (by decide +kernel) (by exact e34) ?_
              refine ev_r_iconst (pc := 148) (k := 0) (by decide +kernel) ?_
              refine ev_r_bipush (pc := 149) (k := 17) (by decide +kernel) (by decide +kernel) ?_
              refine ev_r_iconst (pc := 151) (k := 0) (by decide +kernel) ?_
              refine ev_r_virt (pc := 152) (y := 256) (mi := 103) (na := 3) (k := 3) (as := [.int (Int32.ofInt 0), .int (Int32.ofInt 17), .int (Int32.ofInt 0)]) (rest := []) (encc := ev_oI) (Q := ev_bl) (fun x S1 h => jt_103 d (by omega) Q 0 17 0 (by decide) (by decide) (by decide) s43 x S1 h) (by exact ev_ob_3) (by decide +kernel) (by decide +kernel) (by decide +kernel) (by decide +kernel) rfl (by (try simp only [ev_sum, ev_nv_cat]); first | done | rfl) ?_
              intro x57 s56 hx57
              replace hx57 := ev_bl_rng hx57
              show ev_w _ _ _ _ _ [.int (Int32.ofInt x57)] _ _ _ _
              refine ev_r_if (pc := 155) (q := .ne) (o := 5) (t := 160) (c := x57 ≠ 0) (by decide +kernel) (ev_k_ne hx57 ev_rng0) (by decide +kernel) ?_ ?_
              · intro c58
                exact hK160  s56 _ (by exact e34) (by exact e35) (by exact e36)
              · intro c58
                refine ev_r_iconst (pc := 158) (k := 0) (by decide +kernel) ?_
                exact ev_r_ireturn (pc := 159) (x := 0) (v := Int32.ofInt 0) (ty := .boolean) (by decide : ev_bl 0) (by decide +kernel) (by decide +kernel) (ev_ret_bl (by decide : ev_bl 0)) rfl
        · intro K127 hK127
          refine ev_r_icmp (pc := 115) (q := .eq) (o := 12) (t := 127) (c := x23 = 41) (by decide +kernel) (ev_k_eq hx23 (by decide)) (by decide +kernel) ?_ ?_
          · intro c59
            exact hK127  s31 _ (by exact e26) (by exact e27) (by exact e28) (by exact e29) (by exact e30)
          · intro c59
            refine ev_r_iload (pc := 118) (k := 5) (v := Int32.ofInt x23) (by decide +kernel) (by exact e30) ?_
            refine ev_r_bipush (pc := 120) (k := 58) (by decide +kernel) (by decide +kernel) ?_
            refine ev_r_icmp (pc := 122) (q := .eq) (o := 5) (t := 127) (c := x23 = 58) (by decide +kernel) (ev_k_eq hx23 (by decide)) (by decide +kernel) ?_ ?_
            · intro c60
              exact hK127  s31 _ (by exact e26) (by exact e27) (by exact e28) (by exact e29) (by exact e30)
            · intro c60
              refine ev_r_iconst (pc := 125) (k := 0) (by decide +kernel) ?_
              exact ev_r_ireturn (pc := 126) (x := 0) (v := Int32.ofInt 0) (ty := .boolean) (by decide : ev_bl 0) (by decide +kernel) (by decide +kernel) (ev_ret_bl (by decide : ev_bl 0)) rfl
    · intro K108 hK108
      refine ev_r_if (pc := 100) (q := .eq) (o := 7) (t := 107) (c := x3 = 0) (by decide +kernel) (ev_k_eq hx3 ev_rng0) (by decide +kernel) ?_ ?_
      · intro c61
        refine ev_r_iload_n (pc := 107) (k := 1) (v := Int32.ofInt x1) (by decide +kernel) (by exact (ev_l1 e16 (by decide) (by decide))) ?_
        exact hK108 x22 hx22 x1 hx1 s21 _ (by exact (ev_l1 e15 (by decide) (by decide))) (by exact (ev_l1 e16 (by decide) (by decide))) (by exact (ev_l1 e17 (by decide) (by decide))) (by exact (ev_lk_st1 e19 (by decide) rfl)) (by exact ev_lk_st1_self)
      · intro c61
        refine ev_r_iload_n (pc := 103) (k := 2) (v := Int32.ofInt x2) (by decide +kernel) (by exact (ev_l1 e17 (by decide) (by decide))) ?_
        refine ev_r_goto (pc := 104) (o := 4) (t := 108) (by decide +kernel) (by decide +kernel) ?_
        exact hK108 x22 hx22 x2 hx2 s21 _ (by exact (ev_l1 e15 (by decide) (by decide))) (by exact (ev_l1 e16 (by decide) (by decide))) (by exact (ev_l1 e17 (by decide) (by decide))) (by exact (ev_lk_st1 e19 (by decide) rfl)) (by exact ev_lk_st1_self)
  · intro K91 hK91
    refine ev_r_icmp (pc := 17) (q := .ge) (o := 74) (t := 91) (c := 160 ≤ x5) (by decide +kernel) (ev_k_ge hx5 (by decide)) (by decide +kernel) ?_ ?_
    · intro c62
      exact hK91  s13 _ (by exact e7) (by exact e8) (by exact e9) (by exact e10) (by exact e11)
    · intro c62
      refine ev_r_aload_n (pc := 20) (k := 0) (v := .ref 3) trivial (by decide +kernel) (by exact e7) ?_
      refine ev_r_iload (pc := 21) (k := 4) (v := Int32.ofInt x4) (by decide +kernel) (by exact e11) ?_
      refine ev_r_virt (pc := 23) (y := 108) (mi := 84) (na := 1) (k := 3) (as := [.int (Int32.ofInt x4)]) (rest := []) (encc := ev_oI) (Q := ev_rng) (fun x S1 h => jt_84 d (by omega) Q x4 hx4 s13 x S1 h) (by exact ev_ob_3) (by decide +kernel) (by decide +kernel) (by decide +kernel) (by decide +kernel) rfl (by (try simp only [ev_sum, ev_nv_cat]); first | done | rfl) ?_
      intro x64 s63 hx64
      show ev_w _ _ _ _ _ [.int (Int32.ofInt x64)] _ _ _ _
      refine ev_r_stat (pc := 26) (y := 280) (kind := 2) (mi := 110) (na := 1) (as := [.int (Int32.ofInt x64)]) (rest := []) (encc := ev_oI) (Q := ev_rng) (fun x S1 h => jt_110 d (by omega) Q x64 hx64 s63 x S1 h) (Or.inl rfl) (by decide +kernel) (by decide +kernel) (by decide +kernel) (by decide +kernel) rfl (by (try simp only [ev_sum, ev_nv_cat]); first | done | rfl) ?_
      intro x66 s65 hx66
      show ev_w _ _ _ _ _ [.int (Int32.ofInt x66)] _ _ _ _
      refine ev_r_istore (pc := 29) (k := 6) (by decide +kernel) (by decide +kernel) rfl ?_
      refine ev_r_iload (pc := 31) (k := 6) (v := Int32.ofInt x66) (by decide +kernel) (by exact ev_lk_st1_self) ?_
      refine ev_r_jn (Q := fun K => ∀ (x67 : Int) (hx67 : ev_rng x67), ∀ (s76 : ev_St) (w68 : List (Nat × Value)), ev_lk w68 0 = some (.ref 3) → ev_lk w68 1 = some (.int (Int32.ofInt x1)) → ev_lk w68 2 = some (.int (Int32.ofInt x2)) → ev_lk w68 3 = some (.int (Int32.ofInt x3)) → ev_lk w68 4 = some (.int (Int32.ofInt x4)) → ev_lk w68 5 = some (.int (Int32.ofInt x5)) → ev_lk w68 6 = some (.int (Int32.ofInt x67)) → ev_w none (ev_Mof 109) d 54 w68 [] s76 (K x67 s76) ev_eI ev_bl) ?_ ?_
      · intro x67 hx67 s76 w68 e69 e70 e71 e72 e73 e74 e75
        refine ev_r_iload_n (pc := 54) (k := 3) (v := Int32.ofInt x3) (by decide +kernel) (by exact e72) ?_
        refine ev_r_jn (Q := fun K => ∀ (x77 : Int) (hx77 : ev_rng x77), ∀ (x78 : Int) (hx78 : ev_rng x78), ∀ (x79 : Int) (hx79 : ev_rng x79), ∀ (s87 : ev_St) (w80 : List (Nat × Value)), ev_lk w80 0 = some (.ref 3) → ev_lk w80 1 = some (.int (Int32.ofInt x77)) → ev_lk w80 2 = some (.int (Int32.ofInt x78)) → ev_lk w80 3 = some (.int (Int32.ofInt x79)) → ev_lk w80 4 = some (.int (Int32.ofInt x4)) → ev_lk w80 5 = some (.int (Int32.ofInt x5)) → ev_w none (ev_Mof 109) d 82 w80 [] s87 (K x77 x78 x79 s87) ev_eI ev_bl) ?_ ?_
        · intro x77 hx77 x78 hx78 x79 hx79 s87 w80 e81 e82 e83 e84 e85 e86
          refine ev_r_iinc (pc := 82) (k := 4) (c := 1) (x := x4) (by decide +kernel) (by decide +kernel) (by exact e85) (fun _ => rfl) ?_
          intro x88 hx88
          refine ev_r_iinc (pc := 85) (k := 5) (c := 1) (x := x5) (by decide +kernel) (by decide +kernel) (by exact (ev_l1 e86 (by decide) (by decide))) (fun _ => rfl) ?_
          intro x89 hx89
          refine ev_r_goto (pc := 88) (o := (-76)) (t := 12) (by decide +kernel) (by decide +kernel) ?_
          exact hK12 x77 hx77 x78 hx78 x79 hx79 x88 hx88 x89 hx89 s87 _ (by exact (ev_l1 (ev_l1 e81 (by decide) (by decide)) (by decide) (by decide))) (by exact (ev_l1 (ev_l1 e82 (by decide) (by decide)) (by decide) (by decide))) (by exact (ev_l1 (ev_l1 e83 (by decide) (by decide)) (by decide) (by decide))) (by exact (ev_l1 (ev_lk_st1 e84 (by decide) rfl) (by decide) (by decide))) (by exact (ev_lk_st1 ev_lk_st1_self (by decide) rfl)) (by exact ev_lk_st1_self)
        · intro K82 hK82
          refine ev_r_if (pc := 55) (q := .eq) (o := 11) (t := 66) (c := x3 = 0) (by decide +kernel) (ev_k_eq hx3 ev_rng0) (by decide +kernel) ?_ ?_
          · intro c90
            refine ev_r_iload_n (pc := 66) (k := 1) (v := Int32.ofInt x1) (by decide +kernel) (by exact e70) ?_
            refine ev_r_iload (pc := 67) (k := 6) (v := Int32.ofInt x67) (by decide +kernel) (by exact e75) ?_
            refine ev_r_ior (pc := 69) (by decide +kernel) ?_
            intro x91 hx91
            refine ev_r_istore_n (pc := 70) (k := 1) (by decide +kernel) (by decide +kernel) rfl ?_
            refine ev_r_iload (pc := 71) (k := 6) (v := Int32.ofInt x67) (by decide +kernel) (by exact (ev_l1 e75 (by decide) (by decide))) ?_
            refine ev_r_jn (Q := fun K => ∀ (x92 : Int) (hx92 : ev_rng x92), ∀ (x93 : Int) (hx93 : ev_rng x93), ∀ (s100 : ev_St) (w94 : List (Nat × Value)), ev_lk w94 0 = some (.ref 3) → ev_lk w94 1 = some (.int (Int32.ofInt x92)) → ev_lk w94 2 = some (.int (Int32.ofInt x2)) → ev_lk w94 4 = some (.int (Int32.ofInt x4)) → ev_lk w94 5 = some (.int (Int32.ofInt x5)) → ev_w none (ev_Mof 109) d 81 w94 [.int (Int32.ofInt x93)] s100 (K x92 x93 s100) ev_eI ev_bl) ?_ ?_
            · intro x92 hx92 x93 hx93 s100 w94 e95 e96 e97 e98 e99
              refine ev_r_istore_n (pc := 81) (k := 3) (by decide +kernel) (by decide +kernel) rfl ?_
              exact hK82 x92 hx92 x2 hx2 x93 hx93 s100 _ (by exact (ev_l1 e95 (by decide) (by decide))) (by exact (ev_l1 e96 (by decide) (by decide))) (by exact (ev_lk_st1 e97 (by decide) rfl)) (by exact ev_lk_st1_self) (by exact (ev_l1 e98 (by decide) (by decide))) (by exact (ev_l1 e99 (by decide) (by decide)))
            · intro K81 hK81
              refine ev_r_if (pc := 73) (q := .ne) (o := 7) (t := 80) (c := x67 ≠ 0) (by decide +kernel) (ev_k_ne hx67 ev_rng0) (by decide +kernel) ?_ ?_
              · intro c101
                refine ev_r_iconst (pc := 80) (k := 0) (by decide +kernel) ?_
                exact hK81 x91 hx91 0 (by decide) s76 _ (by exact (ev_lk_st1 e69 (by decide) rfl)) (by exact ev_lk_st1_self) (by exact (ev_l1 e71 (by decide) (by decide))) (by exact (ev_l1 e73 (by decide) (by decide))) (by exact (ev_l1 e74 (by decide) (by decide)))
              · intro c101
                refine ev_r_iconst (pc := 76) (k := 1) (by decide +kernel) ?_
                refine ev_r_goto (pc := 77) (o := 4) (t := 81) (by decide +kernel) (by decide +kernel) ?_
                exact hK81 x91 hx91 1 (by decide) s76 _ (by exact (ev_lk_st1 e69 (by decide) rfl)) (by exact ev_lk_st1_self) (by exact (ev_l1 e71 (by decide) (by decide))) (by exact (ev_l1 e73 (by decide) (by decide))) (by exact (ev_l1 e74 (by decide) (by decide)))
          · intro c90
            refine ev_r_iload_n (pc := 58) (k := 2) (v := Int32.ofInt x2) (by decide +kernel) (by exact e71) ?_
            refine ev_r_iload (pc := 59) (k := 6) (v := Int32.ofInt x67) (by decide +kernel) (by exact e75) ?_
            refine ev_r_ior (pc := 61) (by decide +kernel) ?_
            intro x102 hx102
            refine ev_r_istore_n (pc := 62) (k := 2) (by decide +kernel) (by decide +kernel) rfl ?_
            refine ev_r_goto (pc := 63) (o := 19) (t := 82) (by decide +kernel) (by decide +kernel) ?_
            exact hK82 x1 hx1 x102 hx102 x3 hx3 s76 _ (by exact (ev_l1 e69 (by decide) (by decide))) (by exact (ev_lk_st1 e70 (by decide) rfl)) (by exact ev_lk_st1_self) (by exact (ev_l1 e72 (by decide) (by decide))) (by exact (ev_l1 e73 (by decide) (by decide))) (by exact (ev_l1 e74 (by decide) (by decide)))
      · intro K54 hK54
        refine ev_r_if (pc := 33) (q := .ne) (o := 21) (t := 54) (c := x66 ≠ 0) (by decide +kernel) (ev_k_ne hx66 ev_rng0) (by decide +kernel) ?_ ?_
        · intro c103
          exact hK54 x66 hx66 s65 _ (by exact (ev_l1 e7 (by decide) (by decide))) (by exact (ev_l1 e8 (by decide) (by decide))) (by exact (ev_l1 e9 (by decide) (by decide))) (by exact (ev_l1 e10 (by decide) (by decide))) (by exact (ev_l1 e11 (by decide) (by decide))) (by exact (ev_lk_st1 e12 (by decide) rfl)) (by exact ev_lk_st1_self)
        · intro c103
          refine ev_r_aload_n (pc := 36) (k := 0) (v := .ref 3) trivial (by decide +kernel) (by exact (ev_l1 e7 (by decide) (by decide))) ?_
          refine ev_r_iload (pc := 37) (k := 4) (v := Int32.ofInt x4) (by decide +kernel) (by exact (ev_l1 e11 (by decide) (by decide))) ?_
          refine ev_r_virt (pc := 39) (y := 108) (mi := 84) (na := 1) (k := 3) (as := [.int (Int32.ofInt x4)]) (rest := []) (encc := ev_oI) (Q := ev_rng) (fun x S1 h => jt_84 d (by omega) Q x4 hx4 s65 x S1 h) (by exact ev_ob_3) (by decide +kernel) (by decide +kernel) (by decide +kernel) (by decide +kernel) rfl (by (try simp only [ev_sum, ev_nv_cat]); first | done | rfl) ?_
          intro x105 s104 hx105
          show ev_w _ _ _ _ _ [.int (Int32.ofInt x105)] _ _ _ _
          refine ev_r_bipush (pc := 42) (k := 45) (by decide +kernel) (by decide +kernel) ?_
          refine ev_r_icmp (pc := 44) (q := .ne) (o := 47) (t := 91) (c := x105 ≠ 45) (by decide +kernel) (ev_k_ne hx105 (by decide)) (by decide +kernel) ?_ ?_
          · intro c106
            exact hK91  s104 _ (by exact (ev_l1 e7 (by decide) (by decide))) (by exact (ev_l1 e8 (by decide) (by decide))) (by exact (ev_l1 e9 (by decide) (by decide))) (by exact (ev_l1 e10 (by decide) (by decide))) (by exact (ev_l1 e11 (by decide) (by decide)))
          · intro c106
            refine ev_r_iload_n (pc := 47) (k := 3) (v := Int32.ofInt x3) (by decide +kernel) (by exact (ev_l1 e10 (by decide) (by decide))) ?_
            refine ev_r_if (pc := 48) (q := .eq) (o := 6) (t := 54) (c := x3 = 0) (by decide +kernel) (ev_k_eq hx3 ev_rng0) (by decide +kernel) ?_ ?_
            · intro c107
              exact hK54 x66 hx66 s104 _ (by exact (ev_l1 e7 (by decide) (by decide))) (by exact (ev_l1 e8 (by decide) (by decide))) (by exact (ev_l1 e9 (by decide) (by decide))) (by exact (ev_l1 e10 (by decide) (by decide))) (by exact (ev_l1 e11 (by decide) (by decide))) (by exact (ev_lk_st1 e12 (by decide) rfl)) (by exact ev_lk_st1_self)
            · intro c107
              refine ev_r_goto (pc := 51) (o := 40) (t := 91) (by decide +kernel) (by decide +kernel) ?_
              exact hK91  s104 _ (by exact (ev_l1 e7 (by decide) (by decide))) (by exact (ev_l1 e8 (by decide) (by decide))) (by exact (ev_l1 e9 (by decide) (by decide))) (by exact (ev_l1 e10 (by decide) (by decide))) (by exact (ev_l1 e11 (by decide) (by decide)))
theorem jlt_109_12 (d : Nat) (hd : 3 ≤ d + 1) (Q : Nat)     : ∀ q : Nat, ∀ (x1 : Int) (hx1 : ev_rng x1), ∀ (x2 : Int) (hx2 : ev_rng x2), ∀ (x3 : Int) (hx3 : ev_rng x3), ∀ (x4 : Int) (hx4 : ev_rng x4), ∀ (x5 : Int) (hx5 : ev_rng x5), ∀ (s13 : ev_St) (w6 : List (Nat × Value)), ev_lk w6 0 = some (.ref 3) → ev_lk w6 1 = some (.int (Int32.ofInt x1)) → ev_lk w6 2 = some (.int (Int32.ofInt x2)) → ev_lk w6 3 = some (.int (Int32.ofInt x3)) → ev_lk w6 4 = some (.int (Int32.ofInt x4)) → ev_lk w6 5 = some (.int (Int32.ofInt x5)) → ev_w none (ev_Mof 109) d 12 w6 [] s13 (jl_109_12 Q   q x1 x2 x3 x4 x5 s13) ev_eI ev_bl := by
  intro q
  induction q with
  | zero =>
    intro x1 hx1 x2 hx2 x3 hx3 x4 hx4 x5 hx5 s13 w6 e7 e8 e9 e10 e11 e12
    exact ev_w_none
  | succ q ih => exact jbt_109_12 d hd Q     _ ih
/-- MendBench$Reader.readSwitches()Z -/
def jm_109 (Q : Nat)  (S : ev_St) : Option ((Int) × ev_St) := jl_109_12 Q   Q 0 0 0 1 0 S
theorem jt_109 (d : Nat) (hd : 3 ≤ d) (Q : Nat)   (S : ev_St) (x : Int) (S' : ev_St) (hJ : jm_109 Q  S = some (x, S')) : ev_Ref d 109 [.ref 3] S (ev_eI x) S' (ev_bl x) := by
  obtain ⟨d, rfl⟩ : ∃ e, d = e + 1 := ⟨d - 1, by omega⟩
  refine ev_ref_of (P := ev_bl) (lv := [(0, .ref 3)]) (by decide +kernel) (by (try simp only [ev_sum, ev_nv_cat]); first | done | rfl) (by (try simp only [lv_args, ev_nv_cat]); first | done | rfl) ?_ x S' hJ
  unfold jm_109
  refine ev_r_iconst (pc := 0) (k := 0) (by decide +kernel) ?_
  refine ev_r_istore_n (pc := 1) (k := 1) (by decide +kernel) (by decide +kernel) rfl ?_
  refine ev_r_iconst (pc := 2) (k := 0) (by decide +kernel) ?_
  refine ev_r_istore_n (pc := 3) (k := 2) (by decide +kernel) (by decide +kernel) rfl ?_
  refine ev_r_iconst (pc := 4) (k := 0) (by decide +kernel) ?_
  refine ev_r_istore_n (pc := 5) (k := 3) (by decide +kernel) (by decide +kernel) rfl ?_
  refine ev_r_iconst (pc := 6) (k := 1) (by decide +kernel) ?_
  refine ev_r_istore (pc := 7) (k := 4) (by decide +kernel) (by decide +kernel) rfl ?_
  refine ev_r_iconst (pc := 9) (k := 0) (by decide +kernel) ?_
  refine ev_r_istore (pc := 10) (k := 5) (by decide +kernel) (by decide +kernel) rfl ?_
  exact jlt_109_12 d hd Q     Q 0 (by decide) 0 (by decide) 0 (by decide) 1 (by decide) 0 (by decide) S _ (by exact (ev_l1 (ev_l1 (ev_l1 (ev_l1 (ev_lk_st1 (by rfl) (by decide) rfl) (by decide) (by decide)) (by decide) (by decide)) (by decide) (by decide)) (by decide) (by decide))) (by exact (ev_l1 (ev_l1 (ev_l1 (ev_lk_st1 ev_lk_st1_self (by decide) rfl) (by decide) (by decide)) (by decide) (by decide)) (by decide) (by decide))) (by exact (ev_l1 (ev_l1 (ev_lk_st1 ev_lk_st1_self (by decide) rfl) (by decide) (by decide)) (by decide) (by decide))) (by exact (ev_l1 (ev_lk_st1 ev_lk_st1_self (by decide) rfl) (by decide) (by decide))) (by exact (ev_lk_st1 ev_lk_st1_self (by decide) rfl)) (by exact ev_lk_st1_self)
/-- MendBench$Reader.readCall()Z -/
def jm_107 (Q : Nat)  (S : ev_St) : Option ((Int) × ev_St) := ev_bd (jm_84 Q 1 S) fun x2 s1 => ev_bd (jm_208 Q x2 s1) fun x4 s3 => if x4 = 0 then (some (0, s3)) else (ev_bd (jm_84 Q 2 s3) fun x7 s6 => if x7 = 41 then (ev_b (s6.1 3 8) fun x9 => ev_ck (x9 + 3) fun x10 => ev_b (ev_pI s6 3 8 x10) fun s11 => ev_ck (x2 - 48) fun x12 => ev_bd (jm_88 Q 9 x12 0 s11) fun x14 s13 => ev_if (ev_bl x14) (some (x14, s13))) else (some (0, s6)))
theorem jt_107 (d : Nat) (hd : 4 ≤ d) (Q : Nat)   (S : ev_St) (x : Int) (S' : ev_St) (hJ : jm_107 Q  S = some (x, S')) : ev_Ref d 107 [.ref 3] S (ev_eI x) S' (ev_bl x) := by
  obtain ⟨d, rfl⟩ : ∃ e, d = e + 1 := ⟨d - 1, by omega⟩
  refine ev_ref_of (P := ev_bl) (lv := [(0, .ref 3)]) (by decide +kernel) (by (try simp only [ev_sum, ev_nv_cat]); first | done | rfl) (by (try simp only [lv_args, ev_nv_cat]); first | done | rfl) ?_ x S' hJ
  unfold jm_107
  refine ev_r_aload_n (pc := 0) (k := 0) (v := .ref 3) trivial (by decide +kernel) (by rfl) ?_
  refine ev_r_iconst (pc := 1) (k := 1) (by decide +kernel) ?_
  refine ev_r_virt (pc := 2) (y := 108) (mi := 84) (na := 1) (k := 3) (as := [.int (Int32.ofInt 1)]) (rest := []) (encc := ev_oI) (Q := ev_rng) (fun x S1 h => jt_84 d (by omega) Q 1 (by decide) S x S1 h) (by exact ev_ob_3) (by decide +kernel) (by decide +kernel) (by decide +kernel) (by decide +kernel) rfl (by (try simp only [ev_sum, ev_nv_cat]); first | done | rfl) ?_
  intro x2 s1 hx2
  show ev_w _ _ _ _ _ [.int (Int32.ofInt x2)] _ _ _ _
  refine ev_r_istore_n (pc := 5) (k := 1) (by decide +kernel) (by decide +kernel) rfl ?_
  refine ev_r_iload_n (pc := 6) (k := 1) (v := Int32.ofInt x2) (by decide +kernel) (by exact ev_lk_st1_self) ?_
  refine ev_r_stat (pc := 7) (y := 211) (kind := 5) (mi := 208) (na := 1) (as := [.int (Int32.ofInt x2)]) (rest := []) (encc := ev_oI) (Q := ev_bl) (fun x S1 h => jt_208 d (by omega) Q x2 hx2 s1 x S1 h) (Or.inr (Or.inl rfl)) (by decide +kernel) (by decide +kernel) (by decide +kernel) (by decide +kernel) rfl (by (try simp only [ev_sum, ev_nv_cat]); first | done | rfl) ?_
  intro x4 s3 hx4
  replace hx4 := ev_bl_rng hx4
  show ev_w _ _ _ _ _ [.int (Int32.ofInt x4)] _ _ _ _
  refine ev_r_if (pc := 10) (q := .eq) (o := 13) (t := 23) (c := x4 = 0) (by decide +kernel) (ev_k_eq hx4 ev_rng0) (by decide +kernel) ?_ ?_
  · intro c5
    refine ev_r_iconst (pc := 23) (k := 0) (by decide +kernel) ?_
    exact ev_r_ireturn (pc := 24) (x := 0) (v := Int32.ofInt 0) (ty := .boolean) (by decide : ev_bl 0) (by decide +kernel) (by decide +kernel) (ev_ret_bl (by decide : ev_bl 0)) rfl
  · intro c5
    refine ev_r_aload_n (pc := 13) (k := 0) (v := .ref 3) trivial (by decide +kernel) (by exact (ev_lk_st1 (by rfl) (by decide) rfl)) ?_
    refine ev_r_iconst (pc := 14) (k := 2) (by decide +kernel) ?_
    refine ev_r_virt (pc := 15) (y := 108) (mi := 84) (na := 1) (k := 3) (as := [.int (Int32.ofInt 2)]) (rest := []) (encc := ev_oI) (Q := ev_rng) (fun x S1 h => jt_84 d (by omega) Q 2 (by decide) s3 x S1 h) (by exact ev_ob_3) (by decide +kernel) (by decide +kernel) (by decide +kernel) (by decide +kernel) rfl (by (try simp only [ev_sum, ev_nv_cat]); first | done | rfl) ?_
    intro x7 s6 hx7
    show ev_w _ _ _ _ _ [.int (Int32.ofInt x7)] _ _ _ _
    refine ev_r_bipush (pc := 18) (k := 41) (by decide +kernel) (by decide +kernel) ?_
    refine ev_r_icmp (pc := 20) (q := .eq) (o := 5) (t := 25) (c := x7 = 41) (by decide +kernel) (ev_k_eq hx7 (by decide)) (by decide +kernel) ?_ ?_
    · intro c8
      refine ev_r_aload_n (pc := 25) (k := 0) (v := .ref 3) trivial (by decide +kernel) (by exact (ev_lk_st1 (by rfl) (by decide) rfl)) ?_
      refine ev_r_dup (pc := 26) rfl (by decide +kernel) ?_
      refine ev_r_getI (pc := 27) (y := 63) (ci := 7) (f := 8) (fin := 0) (by decide +kernel) (by decide +kernel) (by exact ev_ob_3) rfl ?_
      intro x9 hx9
      refine ev_r_iconst (pc := 30) (k := 3) (by decide +kernel) ?_
      refine ev_r_iadd (pc := 31) (by decide +kernel) ?_
      intro x10 hx10
      refine ev_r_putI (pc := 32) (y := 63) (ci := 7) (f := 8) hx10 (by decide +kernel) (by decide +kernel) (by exact ev_ob_3) rfl rfl ?_
      intro s11
      refine ev_r_aload_n (pc := 35) (k := 0) (v := .ref 3) trivial (by decide +kernel) (by exact (ev_lk_st1 (by rfl) (by decide) rfl)) ?_
      refine ev_r_bipush (pc := 36) (k := 9) (by decide +kernel) (by decide +kernel) ?_
      refine ev_r_iload_n (pc := 38) (k := 1) (v := Int32.ofInt x2) (by decide +kernel) (by exact ev_lk_st1_self) ?_
      refine ev_r_bipush (pc := 39) (k := 48) (by decide +kernel) (by decide +kernel) ?_
      refine ev_r_isub (pc := 41) (by decide +kernel) ?_
      intro x12 hx12
      refine ev_r_iconst (pc := 42) (k := 0) (by decide +kernel) ?_
      refine ev_r_virt (pc := 43) (y := 155) (mi := 88) (na := 3) (k := 3) (as := [.int (Int32.ofInt 9), .int (Int32.ofInt x12), .int (Int32.ofInt 0)]) (rest := []) (encc := ev_oI) (Q := ev_bl) (fun x S1 h => jt_88 d (by omega) Q 9 x12 0 (by decide) hx12 (by decide) s11 x S1 h) (by exact ev_ob_3) (by decide +kernel) (by decide +kernel) (by decide +kernel) (by decide +kernel) rfl (by (try simp only [ev_sum, ev_nv_cat]); first | done | rfl) ?_
      intro x14 s13 hx14
      replace hx14 := ev_bl_rng hx14
      show ev_w _ _ _ _ _ [.int (Int32.ofInt x14)] _ _ _ _
      refine ev_r_chk ?_
      intro c15
      exact ev_r_ireturn (pc := 46) (x := x14) (v := Int32.ofInt x14) (ty := .boolean) c15 (by decide +kernel) (by decide +kernel) (ev_ret_bl c15) rfl
    · intro c8
      refine ev_r_iconst (pc := 23) (k := 0) (by decide +kernel) ?_
      exact ev_r_ireturn (pc := 24) (x := 0) (v := Int32.ofInt 0) (ty := .boolean) (by decide : ev_bl 0) (by decide +kernel) (by decide +kernel) (ev_ret_bl (by decide : ev_bl 0)) rfl
/-- MendBench$Reader.readBracket()Z -/
def jm_102 (Q : Nat)  (S : ev_St) : Option ((Int) × ev_St) := ev_bd (jm_84 Q 0 S) fun x2 s1 => if x2 ≠ 42 then (ev_bd (jm_84 Q 0 s1) fun x5 s4 => if x5 = 63 then (ev_bd (jm_84 Q 1 s4) fun x8 s7 => if x8 = 33 then (ev_bd (jm_103 Q 2 21 0 s7) fun x11 s10 => ev_if (ev_bl x11) (some (x11, s10))) else (if x8 = 38 then (ev_bd (jm_111 Q  s7) fun x15 s14 => ev_if (ev_bl x15) (some (x15, s14))) else (if x8 = 40 then (ev_bd (jm_106 Q  s7) fun x19 s18 => ev_if (ev_bl x19) (some (x19, s18))) else (if x8 = 45 ∨ x8 = 105 ∨ x8 = 109 ∨ x8 = 115 then (ev_bd (jm_109 Q  s7) fun x23 s22 => ev_if (ev_bl x23) (some (x23, s22))) else (if x8 = 58 then (ev_bd (jm_103 Q 2 17 0 s7) fun x27 s26 => ev_if (ev_bl x27) (some (x27, s26))) else (if x8 = 60 then (ev_bd (jm_105 Q  s7) fun x31 s30 => ev_if (ev_bl x31) (some (x31, s30))) else (if x8 = 61 then (ev_bd (jm_103 Q 2 20 0 s7) fun x35 s34 => ev_if (ev_bl x35) (some (x35, s34))) else (if x8 = 62 then (ev_bd (jm_103 Q 2 19 0 s7) fun x39 s38 => ev_if (ev_bl x39) (some (x39, s38))) else (ev_bd (jm_107 Q  s7) fun x42 s41 => ev_if (ev_bl x42) (some (x42, s41))))))))))) else (ev_bd (jm_104 Q  s4) fun x45 s44 => ev_if (ev_bl x45) (some (x45, s44)))) else (ev_bd (jm_108 Q  s1) fun x48 s47 => ev_if (ev_bl x48) (some (x48, s47)))
theorem jt_102 (d : Nat) (hd : 5 ≤ d) (Q : Nat)   (S : ev_St) (x : Int) (S' : ev_St) (hJ : jm_102 Q  S = some (x, S')) : ev_Ref d 102 [.ref 3] S (ev_eI x) S' (ev_bl x) := by
  obtain ⟨d, rfl⟩ : ∃ e, d = e + 1 := ⟨d - 1, by omega⟩
  refine ev_ref_of (P := ev_bl) (lv := [(0, .ref 3)]) (by decide +kernel) (by (try simp only [ev_sum, ev_nv_cat]); first | done | rfl) (by (try simp only [lv_args, ev_nv_cat]); first | done | rfl) ?_ x S' hJ
  unfold jm_102
  refine ev_r_aload_n (pc := 0) (k := 0) (v := .ref 3) trivial (by decide +kernel) (by rfl) ?_
  refine ev_r_iconst (pc := 1) (k := 0) (by decide +kernel) ?_
  refine ev_r_virt (pc := 2) (y := 108) (mi := 84) (na := 1) (k := 3) (as := [.int (Int32.ofInt 0)]) (rest := []) (encc := ev_oI) (Q := ev_rng) (fun x S1 h => jt_84 d (by omega) Q 0 (by decide) S x S1 h) (by exact ev_ob_3) (by decide +kernel) (by decide +kernel) (by decide +kernel) (by decide +kernel) rfl (by (try simp only [ev_sum, ev_nv_cat]); first | done | rfl) ?_
  intro x2 s1 hx2
  show ev_w _ _ _ _ _ [.int (Int32.ofInt x2)] _ _ _ _
  refine ev_r_bipush (pc := 5) (k := 42) (by decide +kernel) (by decide +kernel) ?_
  refine ev_r_icmp (pc := 7) (q := .ne) (o := 8) (t := 15) (c := x2 ≠ 42) (by decide +kernel) (ev_k_ne hx2 (by decide)) (by decide +kernel) ?_ ?_
  · intro c3
    refine ev_r_aload_n (pc := 15) (k := 0) (v := .ref 3) trivial (by decide +kernel) (by rfl) ?_
    refine ev_r_iconst (pc := 16) (k := 0) (by decide +kernel) ?_
    refine ev_r_virt (pc := 17) (y := 108) (mi := 84) (na := 1) (k := 3) (as := [.int (Int32.ofInt 0)]) (rest := []) (encc := ev_oI) (Q := ev_rng) (fun x S1 h => jt_84 d (by omega) Q 0 (by decide) s1 x S1 h) (by exact ev_ob_3) (by decide +kernel) (by decide +kernel) (by decide +kernel) (by decide +kernel) rfl (by (try simp only [ev_sum, ev_nv_cat]); first | done | rfl) ?_
    intro x5 s4 hx5
    show ev_w _ _ _ _ _ [.int (Int32.ofInt x5)] _ _ _ _
    refine ev_r_bipush (pc := 20) (k := 63) (by decide +kernel) (by decide +kernel) ?_
    refine ev_r_icmp (pc := 22) (q := .eq) (o := 8) (t := 30) (c := x5 = 63) (by decide +kernel) (ev_k_eq hx5 (by decide)) (by decide +kernel) ?_ ?_
    · intro c6
      refine ev_r_aload_n (pc := 30) (k := 0) (v := .ref 3) trivial (by decide +kernel) (by rfl) ?_
      refine ev_r_iconst (pc := 31) (k := 1) (by decide +kernel) ?_
      refine ev_r_virt (pc := 32) (y := 108) (mi := 84) (na := 1) (k := 3) (as := [.int (Int32.ofInt 1)]) (rest := []) (encc := ev_oI) (Q := ev_rng) (fun x S1 h => jt_84 d (by omega) Q 1 (by decide) s4 x S1 h) (by exact ev_ob_3) (by decide +kernel) (by decide +kernel) (by decide +kernel) (by decide +kernel) rfl (by (try simp only [ev_sum, ev_nv_cat]); first | done | rfl) ?_
      intro x8 s7 hx8
      show ev_w _ _ _ _ _ [.int (Int32.ofInt x8)] _ _ _ _
      refine ev_r_ite ?_ ?_
      · intro c9
        refine ev_r_sw (pc := 35) (i := (.lookupswitch 153 #[(33, 124), (38, 143), (40, 138), (45, 148), (58, 97), (60, 133), (61, 115), (62, 106), (105, 148), (109, 148), (115, 148)])) (len := 97) (pc' := 159) (by decide +kernel) (by rw [c9]; rw [ev_pure_lsw]; exact ev_lsw_c (o := 124) (by decide) (by decide +kernel) (by decide +kernel) (by decide +kernel)) ?_
        refine ev_r_aload_n (pc := 159) (k := 0) (v := .ref 3) trivial (by decide +kernel) (by rfl) ?_
        refine ev_r_iconst (pc := 160) (k := 2) (by decide +kernel) ?_
        refine ev_r_bipush (pc := 161) (k := 21) (by decide +kernel) (by decide +kernel) ?_
        refine ev_r_iconst (pc := 163) (k := 0) (by decide +kernel) ?_
        refine ev_r_virt (pc := 164) (y := 256) (mi := 103) (na := 3) (k := 3) (as := [.int (Int32.ofInt 2), .int (Int32.ofInt 21), .int (Int32.ofInt 0)]) (rest := []) (encc := ev_oI) (Q := ev_bl) (fun x S1 h => jt_103 d (by omega) Q 2 21 0 (by decide) (by decide) (by decide) s7 x S1 h) (by exact ev_ob_3) (by decide +kernel) (by decide +kernel) (by decide +kernel) (by decide +kernel) rfl (by (try simp only [ev_sum, ev_nv_cat]); first | done | rfl) ?_
        intro x11 s10 hx11
        replace hx11 := ev_bl_rng hx11
        show ev_w _ _ _ _ _ [.int (Int32.ofInt x11)] _ _ _ _
        refine ev_r_chk ?_
        intro c12
        exact ev_r_ireturn (pc := 167) (x := x11) (v := Int32.ofInt x11) (ty := .boolean) c12 (by decide +kernel) (by decide +kernel) (ev_ret_bl c12) rfl
      · intro c9
        refine ev_r_ite ?_ ?_
        · intro c13
          refine ev_r_sw (pc := 35) (i := (.lookupswitch 153 #[(33, 124), (38, 143), (40, 138), (45, 148), (58, 97), (60, 133), (61, 115), (62, 106), (105, 148), (109, 148), (115, 148)])) (len := 97) (pc' := 178) (by decide +kernel) (by rw [c13]; rw [ev_pure_lsw]; exact ev_lsw_c (o := 143) (by decide) (by decide +kernel) (by decide +kernel) (by decide +kernel)) ?_
          refine ev_r_aload_n (pc := 178) (k := 0) (v := .ref 3) trivial (by decide +kernel) (by rfl) ?_
          refine ev_r_virt (pc := 179) (y := 265) (mi := 111) (na := 0) (k := 3) (as := []) (rest := []) (encc := ev_oI) (Q := ev_bl) (fun x S1 h => jt_111 d (by omega) Q   s7 x S1 h) (by exact ev_ob_3) (by decide +kernel) (by decide +kernel) (by decide +kernel) (by decide +kernel) rfl (by (try simp only [ev_sum, ev_nv_cat]); first | done | rfl) ?_
          intro x15 s14 hx15
          replace hx15 := ev_bl_rng hx15
          show ev_w _ _ _ _ _ [.int (Int32.ofInt x15)] _ _ _ _
          refine ev_r_chk ?_
          intro c16
          exact ev_r_ireturn (pc := 182) (x := x15) (v := Int32.ofInt x15) (ty := .boolean) c16 (by decide +kernel) (by decide +kernel) (ev_ret_bl c16) rfl
        · intro c13
          refine ev_r_ite ?_ ?_
          · intro c17
            refine ev_r_sw (pc := 35) (i := (.lookupswitch 153 #[(33, 124), (38, 143), (40, 138), (45, 148), (58, 97), (60, 133), (61, 115), (62, 106), (105, 148), (109, 148), (115, 148)])) (len := 97) (pc' := 173) (by decide +kernel) (by rw [c17]; rw [ev_pure_lsw]; exact ev_lsw_c (o := 138) (by decide) (by decide +kernel) (by decide +kernel) (by decide +kernel)) ?_
            refine ev_r_aload_n (pc := 173) (k := 0) (v := .ref 3) trivial (by decide +kernel) (by rfl) ?_
            refine ev_r_virt (pc := 174) (y := 262) (mi := 106) (na := 0) (k := 3) (as := []) (rest := []) (encc := ev_oI) (Q := ev_bl) (fun x S1 h => jt_106 d (by omega) Q   s7 x S1 h) (by exact ev_ob_3) (by decide +kernel) (by decide +kernel) (by decide +kernel) (by decide +kernel) rfl (by (try simp only [ev_sum, ev_nv_cat]); first | done | rfl) ?_
            intro x19 s18 hx19
            replace hx19 := ev_bl_rng hx19
            show ev_w _ _ _ _ _ [.int (Int32.ofInt x19)] _ _ _ _
            refine ev_r_chk ?_
            intro c20
            exact ev_r_ireturn (pc := 177) (x := x19) (v := Int32.ofInt x19) (ty := .boolean) c20 (by decide +kernel) (by decide +kernel) (ev_ret_bl c20) rfl
          · intro c17
            refine ev_r_ite ?_ ?_
            · intro c21
              refine ev_r_sw (pc := 35) (i := (.lookupswitch 153 #[(33, 124), (38, 143), (40, 138), (45, 148), (58, 97), (60, 133), (61, 115), (62, 106), (105, 148), (109, 148), (115, 148)])) (len := 97) (pc' := 183) (by decide +kernel) (by rcases c21 with e | e | e | e <;> (rw [e]; rw [ev_pure_lsw]; exact ev_lsw_c (o := 148) (by decide) (by decide +kernel) (by decide +kernel) (by decide +kernel))) ?_
              refine ev_r_aload_n (pc := 183) (k := 0) (v := .ref 3) trivial (by decide +kernel) (by rfl) ?_
              refine ev_r_virt (pc := 184) (y := 268) (mi := 109) (na := 0) (k := 3) (as := []) (rest := []) (encc := ev_oI) (Q := ev_bl) (fun x S1 h => jt_109 d (by omega) Q   s7 x S1 h) (by exact ev_ob_3) (by decide +kernel) (by decide +kernel) (by decide +kernel) (by decide +kernel) rfl (by (try simp only [ev_sum, ev_nv_cat]); first | done | rfl) ?_
              intro x23 s22 hx23
              replace hx23 := ev_bl_rng hx23
              show ev_w _ _ _ _ _ [.int (Int32.ofInt x23)] _ _ _ _
              refine ev_r_chk ?_
              intro c24
              exact ev_r_ireturn (pc := 187) (x := x23) (v := Int32.ofInt x23) (ty := .boolean) c24 (by decide +kernel) (by decide +kernel) (ev_ret_bl c24) rfl
            · intro c21
              refine ev_r_ite ?_ ?_
              · intro c25
                refine ev_r_sw (pc := 35) (i := (.lookupswitch 153 #[(33, 124), (38, 143), (40, 138), (45, 148), (58, 97), (60, 133), (61, 115), (62, 106), (105, 148), (109, 148), (115, 148)])) (len := 97) (pc' := 132) (by decide +kernel) (by rw [c25]; rw [ev_pure_lsw]; exact ev_lsw_c (o := 97) (by decide) (by decide +kernel) (by decide +kernel) (by decide +kernel)) ?_
                refine ev_r_aload_n (pc := 132) (k := 0) (v := .ref 3) trivial (by decide +kernel) (by rfl) ?_
                refine ev_r_iconst (pc := 133) (k := 2) (by decide +kernel) ?_
                refine ev_r_bipush (pc := 134) (k := 17) (by decide +kernel) (by decide +kernel) ?_
                refine ev_r_iconst (pc := 136) (k := 0) (by decide +kernel) ?_
                refine ev_r_virt (pc := 137) (y := 256) (mi := 103) (na := 3) (k := 3) (as := [.int (Int32.ofInt 2), .int (Int32.ofInt 17), .int (Int32.ofInt 0)]) (rest := []) (encc := ev_oI) (Q := ev_bl) (fun x S1 h => jt_103 d (by omega) Q 2 17 0 (by decide) (by decide) (by decide) s7 x S1 h) (by exact ev_ob_3) (by decide +kernel) (by decide +kernel) (by decide +kernel) (by decide +kernel) rfl (by (try simp only [ev_sum, ev_nv_cat]); first | done | rfl) ?_
                intro x27 s26 hx27
                replace hx27 := ev_bl_rng hx27
                show ev_w _ _ _ _ _ [.int (Int32.ofInt x27)] _ _ _ _
                refine ev_r_chk ?_
                intro c28
                exact ev_r_ireturn (pc := 140) (x := x27) (v := Int32.ofInt x27) (ty := .boolean) c28 (by decide +kernel) (by decide +kernel) (ev_ret_bl c28) rfl
              · intro c25
                refine ev_r_ite ?_ ?_
                · intro c29
                  refine ev_r_sw (pc := 35) (i := (.lookupswitch 153 #[(33, 124), (38, 143), (40, 138), (45, 148), (58, 97), (60, 133), (61, 115), (62, 106), (105, 148), (109, 148), (115, 148)])) (len := 97) (pc' := 168) (by decide +kernel) (by rw [c29]; rw [ev_pure_lsw]; exact ev_lsw_c (o := 133) (by decide) (by decide +kernel) (by decide +kernel) (by decide +kernel)) ?_
                  refine ev_r_aload_n (pc := 168) (k := 0) (v := .ref 3) trivial (by decide +kernel) (by rfl) ?_
                  refine ev_r_virt (pc := 169) (y := 259) (mi := 105) (na := 0) (k := 3) (as := []) (rest := []) (encc := ev_oI) (Q := ev_bl) (fun x S1 h => jt_105 d (by omega) Q   s7 x S1 h) (by exact ev_ob_3) (by decide +kernel) (by decide +kernel) (by decide +kernel) (by decide +kernel) rfl (by (try simp only [ev_sum, ev_nv_cat]); first | done | rfl) ?_
                  intro x31 s30 hx31
                  replace hx31 := ev_bl_rng hx31
                  show ev_w _ _ _ _ _ [.int (Int32.ofInt x31)] _ _ _ _
                  refine ev_r_chk ?_
                  intro c32
                  exact ev_r_ireturn (pc := 172) (x := x31) (v := Int32.ofInt x31) (ty := .boolean) c32 (by decide +kernel) (by decide +kernel) (ev_ret_bl c32) rfl
                · intro c29
                  refine ev_r_ite ?_ ?_
                  · intro c33
                    refine ev_r_sw (pc := 35) (i := (.lookupswitch 153 #[(33, 124), (38, 143), (40, 138), (45, 148), (58, 97), (60, 133), (61, 115), (62, 106), (105, 148), (109, 148), (115, 148)])) (len := 97) (pc' := 150) (by decide +kernel) (by rw [c33]; rw [ev_pure_lsw]; exact ev_lsw_c (o := 115) (by decide) (by decide +kernel) (by decide +kernel) (by decide +kernel)) ?_
                    refine ev_r_aload_n (pc := 150) (k := 0) (v := .ref 3) trivial (by decide +kernel) (by rfl) ?_
                    refine ev_r_iconst (pc := 151) (k := 2) (by decide +kernel) ?_
                    refine ev_r_bipush (pc := 152) (k := 20) (by decide +kernel) (by decide +kernel) ?_
                    refine ev_r_iconst (pc := 154) (k := 0) (by decide +kernel) ?_
                    refine ev_r_virt (pc := 155) (y := 256) (mi := 103) (na := 3) (k := 3) (as := [.int (Int32.ofInt 2), .int (Int32.ofInt 20), .int (Int32.ofInt 0)]) (rest := []) (encc := ev_oI) (Q := ev_bl) (fun x S1 h => jt_103 d (by omega) Q 2 20 0 (by decide) (by decide) (by decide) s7 x S1 h) (by exact ev_ob_3) (by decide +kernel) (by decide +kernel) (by decide +kernel) (by decide +kernel) rfl (by (try simp only [ev_sum, ev_nv_cat]); first | done | rfl) ?_
                    intro x35 s34 hx35
                    replace hx35 := ev_bl_rng hx35
                    show ev_w _ _ _ _ _ [.int (Int32.ofInt x35)] _ _ _ _
                    refine ev_r_chk ?_
                    intro c36
                    exact ev_r_ireturn (pc := 158) (x := x35) (v := Int32.ofInt x35) (ty := .boolean) c36 (by decide +kernel) (by decide +kernel) (ev_ret_bl c36) rfl
                  · intro c33
                    refine ev_r_ite ?_ ?_
                    · intro c37
                      refine ev_r_sw (pc := 35) (i := (.lookupswitch 153 #[(33, 124), (38, 143), (40, 138), (45, 148), (58, 97), (60, 133), (61, 115), (62, 106), (105, 148), (109, 148), (115, 148)])) (len := 97) (pc' := 141) (by decide +kernel) (by rw [c37]; rw [ev_pure_lsw]; exact ev_lsw_c (o := 106) (by decide) (by decide +kernel) (by decide +kernel) (by decide +kernel)) ?_
                      refine ev_r_aload_n (pc := 141) (k := 0) (v := .ref 3) trivial (by decide +kernel) (by rfl) ?_
                      refine ev_r_iconst (pc := 142) (k := 2) (by decide +kernel) ?_
                      refine ev_r_bipush (pc := 143) (k := 19) (by decide +kernel) (by decide +kernel) ?_
                      refine ev_r_iconst (pc := 145) (k := 0) (by decide +kernel) ?_
                      refine ev_r_virt (pc := 146) (y := 256) (mi := 103) (na := 3) (k := 3) (as := [.int (Int32.ofInt 2), .int (Int32.ofInt 19), .int (Int32.ofInt 0)]) (rest := []) (encc := ev_oI) (Q := ev_bl) (fun x S1 h => jt_103 d (by omega) Q 2 19 0 (by decide) (by decide) (by decide) s7 x S1 h) (by exact ev_ob_3) (by decide +kernel) (by decide +kernel) (by decide +kernel) (by decide +kernel) rfl (by (try simp only [ev_sum, ev_nv_cat]); first | done | rfl) ?_
                      intro x39 s38 hx39
                      replace hx39 := ev_bl_rng hx39
                      show ev_w _ _ _ _ _ [.int (Int32.ofInt x39)] _ _ _ _
                      refine ev_r_chk ?_
                      intro c40
                      exact ev_r_ireturn (pc := 149) (x := x39) (v := Int32.ofInt x39) (ty := .boolean) c40 (by decide +kernel) (by decide +kernel) (ev_ret_bl c40) rfl
                    · intro c37
                      refine ev_r_sw (pc := 35) (i := (.lookupswitch 153 #[(33, 124), (38, 143), (40, 138), (45, 148), (58, 97), (60, 133), (61, 115), (62, 106), (105, 148), (109, 148), (115, 148)])) (len := 97) (pc' := 188) (by decide +kernel) (by rw [ev_pure_lsw]; exact ev_lsw_c (o := 153) hx8 (by decide +kernel) (by show Op.lookupswitch.offset [(33, 124), (38, 143), (40, 138), (45, 148), (58, 97), (60, 133), (61, 115), (62, 106), (105, 148), (109, 148), (115, 148)] 153 x8 = 153; rw [Op.lookupswitch.offset_cons, if_neg (by omega), Op.lookupswitch.offset_cons, if_neg (by omega), Op.lookupswitch.offset_cons, if_neg (by omega), Op.lookupswitch.offset_cons, if_neg (by omega), Op.lookupswitch.offset_cons, if_neg (by omega), Op.lookupswitch.offset_cons, if_neg (by omega), Op.lookupswitch.offset_cons, if_neg (by omega), Op.lookupswitch.offset_cons, if_neg (by omega), Op.lookupswitch.offset_cons, if_neg (by omega), Op.lookupswitch.offset_cons, if_neg (by omega), Op.lookupswitch.offset_cons, if_neg (by omega), Op.lookupswitch.offset_nil]) (by decide +kernel)) ?_
                      refine ev_r_aload_n (pc := 188) (k := 0) (v := .ref 3) trivial (by decide +kernel) (by rfl) ?_
                      refine ev_r_virt (pc := 189) (y := 271) (mi := 107) (na := 0) (k := 3) (as := []) (rest := []) (encc := ev_oI) (Q := ev_bl) (fun x S1 h => jt_107 d (by omega) Q   s7 x S1 h) (by exact ev_ob_3) (by decide +kernel) (by decide +kernel) (by decide +kernel) (by decide +kernel) rfl (by (try simp only [ev_sum, ev_nv_cat]); first | done | rfl) ?_
                      intro x42 s41 hx42
                      replace hx42 := ev_bl_rng hx42
                      show ev_w _ _ _ _ _ [.int (Int32.ofInt x42)] _ _ _ _
                      refine ev_r_chk ?_
                      intro c43
                      exact ev_r_ireturn (pc := 192) (x := x42) (v := Int32.ofInt x42) (ty := .boolean) c43 (by decide +kernel) (by decide +kernel) (ev_ret_bl c43) rfl
    · intro c6
      refine ev_r_aload_n (pc := 25) (k := 0) (v := .ref 3) trivial (by decide +kernel) (by rfl) ?_
      refine ev_r_virt (pc := 26) (y := 253) (mi := 104) (na := 0) (k := 3) (as := []) (rest := []) (encc := ev_oI) (Q := ev_bl) (fun x S1 h => jt_104 d (by omega) Q   s4 x S1 h) (by exact ev_ob_3) (by decide +kernel) (by decide +kernel) (by decide +kernel) (by decide +kernel) rfl (by (try simp only [ev_sum, ev_nv_cat]); first | done | rfl) ?_
      intro x45 s44 hx45
      replace hx45 := ev_bl_rng hx45
      show ev_w _ _ _ _ _ [.int (Int32.ofInt x45)] _ _ _ _
      refine ev_r_chk ?_
      intro c46
      exact ev_r_ireturn (pc := 29) (x := x45) (v := Int32.ofInt x45) (ty := .boolean) c46 (by decide +kernel) (by decide +kernel) (ev_ret_bl c46) rfl
  · intro c3
    refine ev_r_aload_n (pc := 10) (k := 0) (v := .ref 3) trivial (by decide +kernel) (by rfl) ?_
    refine ev_r_virt (pc := 11) (y := 250) (mi := 108) (na := 0) (k := 3) (as := []) (rest := []) (encc := ev_oI) (Q := ev_bl) (fun x S1 h => jt_108 d (by omega) Q   s1 x S1 h) (by exact ev_ob_3) (by decide +kernel) (by decide +kernel) (by decide +kernel) (by decide +kernel) rfl (by (try simp only [ev_sum, ev_nv_cat]); first | done | rfl) ?_
    intro x48 s47 hx48
    replace hx48 := ev_bl_rng hx48
    show ev_w _ _ _ _ _ [.int (Int32.ofInt x48)] _ _ _ _
    refine ev_r_chk ?_
    intro c49
    exact ev_r_ireturn (pc := 14) (x := x48) (v := Int32.ofInt x48) (ty := .boolean) c49 (by decide +kernel) (by decide +kernel) (ev_ret_bl c49) rfl
/-- MendBench$Reader.readBar()Z -/
def jm_101 (Q : Nat)  (S : ev_St) : Option ((Int) × ev_St) := ev_b (S.1 3 10) fun x1 => if x1 < 0 then (some (0, S)) else (ev_b (S.1 3 10) fun x3 => if 152 ≤ x3 then (some (0, S)) else (ev_bd (jm_87 Q  S) fun x6 s5 => if x6 ≠ 0 then (ev_b (s5.1 3 10) fun x8 => ev_if ((0 : Int) ≤ x8 ∧ x8 < (152 : Int)) (ev_b (17 + 1 * Int.toNat x8) fun _ => ev_b (s5.1 ((17 + 1 * Int.toNat x8)) 0) fun x11 => ev_jn (fun (r12 : Nat) (s16 : ev_St) => ev_bd (jm_99 Q ((r12 + 1)) s16) fun x18 s17 => ev_if (ev_bl x18) (some (x18, s17))) fun K56 => if x11 ≠ 8 then (K56 ((17 + 1 * Int.toNat x8)) s5) else (ev_b (s5.1 ((17 + 1 * Int.toNat x8)) 4) fun x21 => if x21 < 0 then (K56 ((17 + 1 * Int.toNat x8)) s5) else (some (0, s5))))) else (some (0, s5))))
theorem jt_101 (d : Nat) (hd : 3 ≤ d) (Q : Nat)   (S : ev_St) (x : Int) (S' : ev_St) (hJ : jm_101 Q  S = some (x, S')) : ev_Ref d 101 [.ref 3] S (ev_eI x) S' (ev_bl x) := by
  obtain ⟨d, rfl⟩ : ∃ e, d = e + 1 := ⟨d - 1, by omega⟩
  refine ev_ref_of (P := ev_bl) (lv := [(0, .ref 3)]) (by decide +kernel) (by (try simp only [ev_sum, ev_nv_cat]); first | done | rfl) (by (try simp only [lv_args, ev_nv_cat]); first | done | rfl) ?_ x S' hJ
  unfold jm_101
  refine ev_r_aload_n (pc := 0) (k := 0) (v := .ref 3) trivial (by decide +kernel) (by rfl) ?_
  refine ev_r_getI (pc := 1) (y := 69) (ci := 7) (f := 10) (fin := 0) (by decide +kernel) (by decide +kernel) (by exact ev_ob_3) rfl ?_
  intro x1 hx1
  refine ev_r_if (pc := 4) (q := .lt) (o := 22) (t := 26) (c := x1 < 0) (by decide +kernel) (ev_k_lt hx1 ev_rng0) (by decide +kernel) ?_ ?_
  · intro c2
    refine ev_r_iconst (pc := 26) (k := 0) (by decide +kernel) ?_
    exact ev_r_ireturn (pc := 27) (x := 0) (v := Int32.ofInt 0) (ty := .boolean) (by decide : ev_bl 0) (by decide +kernel) (by decide +kernel) (ev_ret_bl (by decide : ev_bl 0)) rfl
  · intro c2
    refine ev_r_aload_n (pc := 7) (k := 0) (v := .ref 3) trivial (by decide +kernel) (by rfl) ?_
    refine ev_r_getI (pc := 8) (y := 69) (ci := 7) (f := 10) (fin := 0) (by decide +kernel) (by decide +kernel) (by exact ev_ob_3) rfl ?_
    intro x3 hx3
    refine ev_r_aload_n (pc := 11) (k := 0) (v := .ref 3) trivial (by decide +kernel) (by rfl) ?_
    refine ev_r_getC (pc := 12) (y := 30) (ci := 7) (f := 3) (fin := 1) (k' := 14) (by decide +kernel) (by decide +kernel) (by exact ev_ob_3) rfl rfl ?_
    refine ev_r_alenC (pc := 15) (kd := 3) (N := 152) (t := (.object "MendBench$Open", 17, 1)) (Or.inl rfl) (by decide +kernel) (by decide +kernel) ?_
    refine ev_r_icmp (pc := 16) (q := .ge) (o := 10) (t := 26) (c := 152 ≤ x3) (by decide +kernel) (ev_k_ge hx3 (by decide)) (by decide +kernel) ?_ ?_
    · intro c4
      refine ev_r_iconst (pc := 26) (k := 0) (by decide +kernel) ?_
      exact ev_r_ireturn (pc := 27) (x := 0) (v := Int32.ofInt 0) (ty := .boolean) (by decide : ev_bl 0) (by decide +kernel) (by decide +kernel) (ev_ret_bl (by decide : ev_bl 0)) rfl
    · intro c4
      refine ev_r_aload_n (pc := 19) (k := 0) (v := .ref 3) trivial (by decide +kernel) (by rfl) ?_
      refine ev_r_virt (pc := 20) (y := 162) (mi := 87) (na := 0) (k := 3) (as := []) (rest := []) (encc := ev_oI) (Q := ev_bl) (fun x S1 h => jt_87 d (by omega) Q   S x S1 h) (by exact ev_ob_3) (by decide +kernel) (by decide +kernel) (by decide +kernel) (by decide +kernel) rfl (by (try simp only [ev_sum, ev_nv_cat]); first | done | rfl) ?_
      intro x6 s5 hx6
      replace hx6 := ev_bl_rng hx6
      show ev_w _ _ _ _ _ [.int (Int32.ofInt x6)] _ _ _ _
      refine ev_r_if (pc := 23) (q := .ne) (o := 5) (t := 28) (c := x6 ≠ 0) (by decide +kernel) (ev_k_ne hx6 ev_rng0) (by decide +kernel) ?_ ?_
      · intro c7
        refine ev_r_aload_n (pc := 28) (k := 0) (v := .ref 3) trivial (by decide +kernel) (by rfl) ?_
        refine ev_r_getC (pc := 29) (y := 30) (ci := 7) (f := 3) (fin := 1) (k' := 14) (by decide +kernel) (by decide +kernel) (by exact ev_ob_3) rfl rfl ?_
        refine ev_r_aload_n (pc := 32) (k := 0) (v := .ref 3) trivial (by decide +kernel) (by rfl) ?_
        refine ev_r_getI (pc := 33) (y := 69) (ci := 7) (f := 10) (fin := 0) (by decide +kernel) (by decide +kernel) (by exact ev_ob_3) rfl ?_
        intro x8 hx8
        refine ev_r_aald (pc := 36) (N := 152) (b := 17) (c := 1) (C := "MendBench$Open") hx8 (by decide +kernel) (by decide +kernel) ?_
        intro c9
        refine ev_r_astore_n (pc := 37) (k := 1) trivial (by decide +kernel) (by decide +kernel) rfl ?_
        refine ev_r_aload_n (pc := 38) (k := 1) (v := .ref ((17 + 1 * Int.toNat x8))) trivial (by decide +kernel) (by exact ev_lk_st1_self) ?_
        refine ev_r_getI (pc := 39) (y := 230) (ci := 4) (f := 0) (fin := 0) (by decide +kernel) (by decide +kernel) (by exact (ev_el_14 c9)) rfl ?_
        intro x11 hx11
        refine ev_r_bipush (pc := 42) (k := 8) (by decide +kernel) (by decide +kernel) ?_
        refine ev_r_jn (Q := fun K => ∀ (r12 : Nat) (hr12 : ev_isOb r12 4 = true), ∀ (s16 : ev_St) (w13 : List (Nat × Value)), ev_lk w13 0 = some (.ref 3) → ev_lk w13 1 = some (.ref r12) → ev_w none (ev_Mof 101) d 56 w13 [] s16 (K r12 s16) ev_eI ev_bl) ?_ ?_
        · intro r12 hr12 s16 w13 e14 e15
          refine ev_r_aload_n (pc := 56) (k := 0) (v := .ref 3) trivial (by decide +kernel) (by exact e14) ?_
          refine ev_r_aload_n (pc := 57) (k := 1) (v := .ref r12) trivial (by decide +kernel) (by exact e15) ?_
          refine ev_r_virt (pc := 58) (y := 243) (mi := 99) (na := 1) (k := 3) (as := [ev_nv ((r12 + 1))]) (rest := []) (encc := ev_oI) (Q := ev_bl) (fun x S1 h => jt_99 d (by omega) Q ((r12 + 1)) (by exact (Or.inr hr12)) s16 x S1 h) (by exact ev_ob_3) (by decide +kernel) (by decide +kernel) (by decide +kernel) (by decide +kernel) rfl (by (try simp only [ev_sum, ev_nv_cat]); first | done | rfl) ?_
          intro x18 s17 hx18
          replace hx18 := ev_bl_rng hx18
          show ev_w _ _ _ _ _ [.int (Int32.ofInt x18)] _ _ _ _
          refine ev_r_chk ?_
          intro c19
          exact ev_r_ireturn (pc := 61) (x := x18) (v := Int32.ofInt x18) (ty := .boolean) c19 (by decide +kernel) (by decide +kernel) (ev_ret_bl c19) rfl
        · intro K56 hK56
          refine ev_r_icmp (pc := 44) (q := .ne) (o := 12) (t := 56) (c := x11 ≠ 8) (by decide +kernel) (ev_k_ne hx11 (by decide)) (by decide +kernel) ?_ ?_
          · intro c20
            exact hK56 ((17 + 1 * Int.toNat x8)) (ev_el_14 c9) s5 _ (by exact (ev_lk_st1 (by rfl) (by decide) rfl)) (by exact ev_lk_st1_self)
          · intro c20
            refine ev_r_aload_n (pc := 47) (k := 1) (v := .ref ((17 + 1 * Int.toNat x8))) trivial (by decide +kernel) (by exact ev_lk_st1_self) ?_
            refine ev_r_getI (pc := 48) (y := 237) (ci := 4) (f := 4) (fin := 0) (by decide +kernel) (by decide +kernel) (by exact (ev_el_14 c9)) rfl ?_
            intro x21 hx21
            refine ev_r_if (pc := 51) (q := .lt) (o := 5) (t := 56) (c := x21 < 0) (by decide +kernel) (ev_k_lt hx21 ev_rng0) (by decide +kernel) ?_ ?_
            · intro c22
              exact hK56 ((17 + 1 * Int.toNat x8)) (ev_el_14 c9) s5 _ (by exact (ev_lk_st1 (by rfl) (by decide) rfl)) (by exact ev_lk_st1_self)
            · intro c22
              refine ev_r_iconst (pc := 54) (k := 0) (by decide +kernel) ?_
              exact ev_r_ireturn (pc := 55) (x := 0) (v := Int32.ofInt 0) (ty := .boolean) (by decide : ev_bl 0) (by decide +kernel) (by decide +kernel) (ev_ret_bl (by decide : ev_bl 0)) rfl
      · intro c7
        refine ev_r_iconst (pc := 26) (k := 0) (by decide +kernel) ?_
        exact ev_r_ireturn (pc := 27) (x := 0) (v := Int32.ofInt 0) (ty := .boolean) (by decide : ev_bl 0) (by decide +kernel) (by decide +kernel) (ev_ret_bl (by decide : ev_bl 0)) rfl
/-- MendBench$Reader.enclose(I)I -/
def jm_93 (Q : Nat) (a0 : Int) (S : ev_St) : Option ((Int) × ev_St) := ev_b (S.2.2.1 3 9) fun r1 => ev_if (r1 ≠ 0) (ev_bd (jm_58 Q ((r1 - 1)) 15 0 0 S) fun x4 s3 => ev_b (s3.2.2.1 3 9) fun r5 => ev_if (r5 ≠ 0) (ev_bd (jm_58 Q ((r5 - 1)) 19 0 0 s3) fun x8 s7 => ev_b (s7.2.2.1 3 9) fun r9 => ev_if (r9 ≠ 0) (ev_bd (jm_59 Q ((r9 - 1)) x4 s7) fun x12 s11 => if x12 = 0 then (some (x8, s11)) else (ev_b (s11.2.2.1 3 9) fun r14 => ev_if (r14 ≠ 0) (ev_bd (jm_59 Q ((r14 - 1)) x8 s11) fun x17 s16 => if x17 = 0 then (some (x8, s16)) else (ev_b (s16.2.2.1 3 9) fun r19 => ev_if (r19 ≠ 0) (ev_if ((0 : Int) ≤ x4 ∧ x4 < (ev_aln (((r19 - 1) + 4)) : Int)) (ev_b (ev_pI s16 (((r19 - 1) + 4)) (Int.toNat x4) a0) fun s21 => ev_b (s21.2.2.1 3 9) fun r22 => ev_if (r22 ≠ 0) (ev_if ((0 : Int) ≤ x8 ∧ x8 < (ev_aln (((r22 - 1) + 4)) : Int)) (ev_b (ev_pI s21 (((r22 - 1) + 4)) (Int.toNat x8) x4) fun s24 => some (x8, s24)))))))))))
theorem jt_93 (d : Nat) (hd : 2 ≤ d) (Q : Nat) (a0 : Int) (ha0 : ev_rng a0) (S : ev_St) (x : Int) (S' : ev_St) (hJ : jm_93 Q a0 S = some (x, S')) : ev_Ref d 93 [.ref 3, .int (Int32.ofInt a0)] S (ev_eI x) S' (ev_rng x) := by
  obtain ⟨d, rfl⟩ : ∃ e, d = e + 1 := ⟨d - 1, by omega⟩
  refine ev_ref_of (P := ev_rng) (lv := [(0, .ref 3), (1, .int (Int32.ofInt a0))]) (by decide +kernel) (by (try simp only [ev_sum, ev_nv_cat]); first | done | rfl) (by (try simp only [lv_args, ev_nv_cat]); first | done | rfl) ?_ x S' hJ
  unfold jm_93
  refine ev_r_aload_n (pc := 0) (k := 0) (v := .ref 3) trivial (by decide +kernel) (by rfl) ?_
  refine ev_r_getR (pc := 1) (y := 55) (ci := 7) (f := 9) (fin := 0) (t := 5) (by decide +kernel) (by decide +kernel) (by exact ev_ob_3) rfl rfl ?_
  intro r1 hr1
  have hr1 : r1 = 0 ∨ ev_isOb (r1 - 1) 5 = true := hr1
  refine ev_r_bipush (pc := 4) (k := 15) (by decide +kernel) (by decide +kernel) ?_
  refine ev_r_iconst (pc := 6) (k := 0) (by decide +kernel) ?_
  refine ev_r_iconst (pc := 7) (k := 0) (by decide +kernel) ?_
  refine ev_r_chk ?_
  intro c2
  refine ev_r_dr (r := r1) (fun v => [.int (Int32.ofInt 0), .int (Int32.ofInt 0), .int (Int32.ofInt 15), v]) c2 ?_
  refine ev_r_virt (pc := 8) (y := 168) (mi := 58) (na := 3) (k := (r1 - 1)) (as := [.int (Int32.ofInt 15), .int (Int32.ofInt 0), .int (Int32.ofInt 0)]) (rest := []) (encc := ev_oI) (Q := ev_rng) (fun x S1 h => jt_58 d (by omega) Q ((r1 - 1)) 15 0 0 (hr1.resolve_left c2) (by decide) (by decide) (by decide) S x S1 h) (by exact (hr1.resolve_left c2)) (by decide +kernel) (by decide +kernel) (by decide +kernel) (by decide +kernel) rfl (by (try simp only [ev_sum, ev_nv_cat]); first | done | rfl) ?_
  intro x4 s3 hx4
  show ev_w _ _ _ _ _ [.int (Int32.ofInt x4)] _ _ _ _
  refine ev_r_istore_n (pc := 11) (k := 2) (by decide +kernel) (by decide +kernel) rfl ?_
  refine ev_r_aload_n (pc := 12) (k := 0) (v := .ref 3) trivial (by decide +kernel) (by exact (ev_l1 (by rfl) (by decide) (by decide))) ?_
  refine ev_r_getR (pc := 13) (y := 55) (ci := 7) (f := 9) (fin := 0) (t := 5) (by decide +kernel) (by decide +kernel) (by exact ev_ob_3) rfl rfl ?_
  intro r5 hr5
  have hr5 : r5 = 0 ∨ ev_isOb (r5 - 1) 5 = true := hr5
  refine ev_r_bipush (pc := 16) (k := 19) (by decide +kernel) (by decide +kernel) ?_
  refine ev_r_iconst (pc := 18) (k := 0) (by decide +kernel) ?_
  refine ev_r_iconst (pc := 19) (k := 0) (by decide +kernel) ?_
  refine ev_r_chk ?_
  intro c6
  refine ev_r_dr (r := r5) (fun v => [.int (Int32.ofInt 0), .int (Int32.ofInt 0), .int (Int32.ofInt 19), v]) c6 ?_
  refine ev_r_virt (pc := 20) (y := 168) (mi := 58) (na := 3) (k := (r5 - 1)) (as := [.int (Int32.ofInt 19), .int (Int32.ofInt 0), .int (Int32.ofInt 0)]) (rest := []) (encc := ev_oI) (Q := ev_rng) (fun x S1 h => jt_58 d (by omega) Q ((r5 - 1)) 19 0 0 (hr5.resolve_left c6) (by decide) (by decide) (by decide) s3 x S1 h) (by exact (hr5.resolve_left c6)) (by decide +kernel) (by decide +kernel) (by decide +kernel) (by decide +kernel) rfl (by (try simp only [ev_sum, ev_nv_cat]); first | done | rfl) ?_
  intro x8 s7 hx8
  show ev_w _ _ _ _ _ [.int (Int32.ofInt x8)] _ _ _ _
  refine ev_r_istore_n (pc := 23) (k := 3) (by decide +kernel) (by decide +kernel) rfl ?_
  refine ev_r_aload_n (pc := 24) (k := 0) (v := .ref 3) trivial (by decide +kernel) (by exact (ev_l1 (ev_l1 (by rfl) (by decide) (by decide)) (by decide) (by decide))) ?_
  refine ev_r_getR (pc := 25) (y := 55) (ci := 7) (f := 9) (fin := 0) (t := 5) (by decide +kernel) (by decide +kernel) (by exact ev_ob_3) rfl rfl ?_
  intro r9 hr9
  have hr9 : r9 = 0 ∨ ev_isOb (r9 - 1) 5 = true := hr9
  refine ev_r_iload_n (pc := 28) (k := 2) (v := Int32.ofInt x4) (by decide +kernel) (by exact (ev_lk_st1 ev_lk_st1_self (by decide) rfl)) ?_
  refine ev_r_chk ?_
  intro c10
  refine ev_r_dr (r := r9) (fun v => [.int (Int32.ofInt x4), v]) c10 ?_
  refine ev_r_virt (pc := 29) (y := 179) (mi := 59) (na := 1) (k := (r9 - 1)) (as := [.int (Int32.ofInt x4)]) (rest := []) (encc := ev_oI) (Q := ev_bl) (fun x S1 h => jt_59 d (by omega) Q ((r9 - 1)) x4 (hr9.resolve_left c10) hx4 s7 x S1 h) (by exact (hr9.resolve_left c10)) (by decide +kernel) (by decide +kernel) (by decide +kernel) (by decide +kernel) rfl (by (try simp only [ev_sum, ev_nv_cat]); first | done | rfl) ?_
  intro x12 s11 hx12
  replace hx12 := ev_bl_rng hx12
  show ev_w _ _ _ _ _ [.int (Int32.ofInt x12)] _ _ _ _
  refine ev_r_if (pc := 32) (q := .eq) (o := 34) (t := 66) (c := x12 = 0) (by decide +kernel) (ev_k_eq hx12 ev_rng0) (by decide +kernel) ?_ ?_
  · intro c13
    refine ev_r_iload_n (pc := 66) (k := 3) (v := Int32.ofInt x8) (by decide +kernel) (by exact ev_lk_st1_self) ?_
    exact ev_r_ireturn (pc := 67) (x := x8) (v := Int32.ofInt x8) (ty := .int) hx8 (by decide +kernel) (by decide +kernel) rfl rfl
  · intro c13
    refine ev_r_aload_n (pc := 35) (k := 0) (v := .ref 3) trivial (by decide +kernel) (by exact (ev_l1 (ev_l1 (by rfl) (by decide) (by decide)) (by decide) (by decide))) ?_
    refine ev_r_getR (pc := 36) (y := 55) (ci := 7) (f := 9) (fin := 0) (t := 5) (by decide +kernel) (by decide +kernel) (by exact ev_ob_3) rfl rfl ?_
    intro r14 hr14
    have hr14 : r14 = 0 ∨ ev_isOb (r14 - 1) 5 = true := hr14
    refine ev_r_iload_n (pc := 39) (k := 3) (v := Int32.ofInt x8) (by decide +kernel) (by exact ev_lk_st1_self) ?_
    refine ev_r_chk ?_
    intro c15
    refine ev_r_dr (r := r14) (fun v => [.int (Int32.ofInt x8), v]) c15 ?_
    refine ev_r_virt (pc := 40) (y := 179) (mi := 59) (na := 1) (k := (r14 - 1)) (as := [.int (Int32.ofInt x8)]) (rest := []) (encc := ev_oI) (Q := ev_bl) (fun x S1 h => jt_59 d (by omega) Q ((r14 - 1)) x8 (hr14.resolve_left c15) hx8 s11 x S1 h) (by exact (hr14.resolve_left c15)) (by decide +kernel) (by decide +kernel) (by decide +kernel) (by decide +kernel) rfl (by (try simp only [ev_sum, ev_nv_cat]); first | done | rfl) ?_
    intro x17 s16 hx17
    replace hx17 := ev_bl_rng hx17
    show ev_w _ _ _ _ _ [.int (Int32.ofInt x17)] _ _ _ _
    refine ev_r_if (pc := 43) (q := .eq) (o := 23) (t := 66) (c := x17 = 0) (by decide +kernel) (ev_k_eq hx17 ev_rng0) (by decide +kernel) ?_ ?_
    · intro c18
      refine ev_r_iload_n (pc := 66) (k := 3) (v := Int32.ofInt x8) (by decide +kernel) (by exact ev_lk_st1_self) ?_
      exact ev_r_ireturn (pc := 67) (x := x8) (v := Int32.ofInt x8) (ty := .int) hx8 (by decide +kernel) (by decide +kernel) rfl rfl
    · intro c18
      refine ev_r_aload_n (pc := 46) (k := 0) (v := .ref 3) trivial (by decide +kernel) (by exact (ev_l1 (ev_l1 (by rfl) (by decide) (by decide)) (by decide) (by decide))) ?_
      refine ev_r_getR (pc := 47) (y := 55) (ci := 7) (f := 9) (fin := 0) (t := 5) (by decide +kernel) (by decide +kernel) (by exact ev_ob_3) rfl rfl ?_
      intro r19 hr19
      have hr19 : r19 = 0 ∨ ev_isOb (r19 - 1) 5 = true := hr19
      refine ev_r_chk ?_
      intro c20
      refine ev_r_dr (r := r19) (fun v => [v]) c20 ?_
      refine ev_r_getC (pc := 50) (y := 201) (ci := 5) (f := 3) (fin := 2) (k' := ((r19 - 1) + 4)) (by decide +kernel) (by decide +kernel) (by exact (hr19.resolve_left c20)) rfl rfl ?_
      refine ev_r_iload_n (pc := 53) (k := 2) (v := Int32.ofInt x4) (by decide +kernel) (by exact (ev_lk_st1 ev_lk_st1_self (by decide) rfl)) ?_
      refine ev_r_iload_n (pc := 54) (k := 1) (v := Int32.ofInt a0) (by decide +kernel) (by exact (ev_l1 (ev_lk_st1 (by rfl) (by decide) rfl) (by decide) (by decide))) ?_
      refine ev_r_iast (pc := 55) ha0 hx4 (by decide +kernel) (by exact (ev_fo_5_3 (hr19.resolve_left c20))) ?_
      intro s21
      refine ev_r_aload_n (pc := 56) (k := 0) (v := .ref 3) trivial (by decide +kernel) (by exact (ev_l1 (ev_l1 (by rfl) (by decide) (by decide)) (by decide) (by decide))) ?_
      refine ev_r_getR (pc := 57) (y := 55) (ci := 7) (f := 9) (fin := 0) (t := 5) (by decide +kernel) (by decide +kernel) (by exact ev_ob_3) rfl rfl ?_
      intro r22 hr22
      have hr22 : r22 = 0 ∨ ev_isOb (r22 - 1) 5 = true := hr22
      refine ev_r_chk ?_
      intro c23
      refine ev_r_dr (r := r22) (fun v => [v]) c23 ?_
      refine ev_r_getC (pc := 60) (y := 201) (ci := 5) (f := 3) (fin := 2) (k' := ((r22 - 1) + 4)) (by decide +kernel) (by decide +kernel) (by exact (hr22.resolve_left c23)) rfl rfl ?_
      refine ev_r_iload_n (pc := 63) (k := 3) (v := Int32.ofInt x8) (by decide +kernel) (by exact ev_lk_st1_self) ?_
      refine ev_r_iload_n (pc := 64) (k := 2) (v := Int32.ofInt x4) (by decide +kernel) (by exact (ev_lk_st1 ev_lk_st1_self (by decide) rfl)) ?_
      refine ev_r_iast (pc := 65) hx4 hx8 (by decide +kernel) (by exact (ev_fo_5_3 (hr22.resolve_left c23))) ?_
      intro s24
      refine ev_r_iload_n (pc := 66) (k := 3) (v := Int32.ofInt x8) (by decide +kernel) (by exact ev_lk_st1_self) ?_
      exact ev_r_ireturn (pc := 67) (x := x8) (v := Int32.ofInt x8) (ty := .int) hx8 (by decide +kernel) (by decide +kernel) rfl rfl
/-- MendBench$Reader.addRepeat(II)Z -/
def jm_92 (Q : Nat) (a0 : Int) (a1 : Int) (S : ev_St) : Option ((Int) × ev_St) := ev_b (S.1 3 13) fun x1 => if x1 = 0 then (some (0, S)) else (ev_b (S.1 3 10) fun x3 => if x3 < 0 then (some (0, S)) else (ev_b (S.1 3 10) fun x5 => if 152 ≤ x5 then (some (0, S)) else (ev_bd (jm_87 Q  S) fun x8 s7 => if x8 ≠ 0 then (ev_b (ev_pI s7 3 13 0) fun s10 => ev_bd (jm_84 Q 0 s10) fun x12 s11 => ev_jn (fun (x13 : Int) (s19 : ev_St) => ev_b (s19.1 3 10) fun x20 => ev_if ((0 : Int) ≤ x20 ∧ x20 < (152 : Int)) (ev_b (17 + 1 * Int.toNat x20) fun _ => ev_b (s19.2.2.1 3 9) fun r23 => ev_jn (fun (r24 : Nat) (x26 : Int) (r25 : Nat) (s33 : ev_St) => ev_if (r25 ≠ 0) (ev_bd (jm_58 Q ((r25 - 1)) x26 a0 a1 s33) fun x36 s35 => ev_b (s35.2.2.1 3 9) fun r37 => ev_if (r37 ≠ 0) (ev_bd (jm_59 Q ((r37 - 1)) x36 s35) fun x40 s39 => if x40 ≠ 0 then (ev_b (s39.2.2.1 3 9) fun r42 => ev_if (r42 ≠ 0) (ev_b (s39.1 r24 7) fun x44 => ev_if ((0 : Int) ≤ x36 ∧ x36 < (ev_aln (((r42 - 1) + 4)) : Int)) (ev_b (ev_pI s39 (((r42 - 1) + 4)) (Int.toNat x36) x44) fun s45 => ev_jn (fun (x46 : Int) (s50 : ev_St) => ev_b (s50.2.2.1 3 9) fun r51 => ev_if (r51 ≠ 0) (ev_bd (jm_59 Q ((r51 - 1)) x46 s50) fun x54 s53 => if x54 ≠ 0 then (ev_b (s53.2.2.1 3 9) fun r56 => ev_b (s53.1 r24 8) fun x57 => ev_if (r56 ≠ 0) (ev_bd (jm_59 Q ((r56 - 1)) x57 s53) fun x60 s59 => if x60 = 0 then (ev_b (ev_pI s59 r24 6 x46) fun s62 => ev_b (ev_pI s62 r24 7 x46) fun s63 => some (1, s63)) else (ev_b (s59.2.2.1 3 9) fun r64 => ev_if (r64 ≠ 0) (ev_b (s59.1 r24 8) fun x66 => ev_if ((0 : Int) ≤ x66 ∧ x66 < (ev_aln (((r64 - 1) + 5)) : Int)) (ev_b (ev_pI s59 (((r64 - 1) + 5)) (Int.toNat x66) x46) fun s67 => ev_b (ev_pI s67 r24 7 x46) fun s68 => some (1, s68)))))) else (some (0, s53)))) fun K149 => if x13 ≠ 43 then (K149 x36 s45) else (ev_bd (jm_93 Q x36 s45) fun x71 s70 => K149 x71 s70)))) else (some (0, s39))))) fun K96 => if x13 ≠ 63 then (K96 ((17 + 1 * Int.toNat x20)) 13 r23 s19) else (K96 ((17 + 1 * Int.toNat x20)) 14 r23 s19))) fun K68 => ev_jn (fun (x73 : Int) (s79 : ev_St) => ev_b (s79.1 3 8) fun x80 => ev_ck (x80 + 1) fun x81 => ev_b (ev_pI s79 3 8 x81) fun s82 => K68 x73 s82) fun K58 => if x12 = 63 then (K58 x12 s11) else (if x12 ≠ 43 then (K68 x12 s11) else (K58 x12 s11))) else (some (0, s7)))))
theorem jt_92 (d : Nat) (hd : 3 ≤ d) (Q : Nat) (a0 : Int) (a1 : Int) (ha0 : ev_rng a0) (ha1 : ev_rng a1) (S : ev_St) (x : Int) (S' : ev_St) (hJ : jm_92 Q a0 a1 S = some (x, S')) : ev_Ref d 92 [.ref 3, .int (Int32.ofInt a0), .int (Int32.ofInt a1)] S (ev_eI x) S' (ev_bl x) := by
  obtain ⟨d, rfl⟩ : ∃ e, d = e + 1 := ⟨d - 1, by omega⟩
  refine ev_ref_of (P := ev_bl) (lv := [(0, .ref 3), (1, .int (Int32.ofInt a0)), (2, .int (Int32.ofInt a1))]) (by decide +kernel) (by (try simp only [ev_sum, ev_nv_cat]); first | done | rfl) (by (try simp only [lv_args, ev_nv_cat]); first | done | rfl) ?_ x S' hJ
  unfold jm_92
  refine ev_r_aload_n (pc := 0) (k := 0) (v := .ref 3) trivial (by decide +kernel) (by rfl) ?_
  refine ev_r_getI (pc := 1) (y := 165) (ci := 7) (f := 13) (fin := 0) (by decide +kernel) (by decide +kernel) (by exact ev_ob_3) rfl ?_
  intro x1 hx1
  refine ev_r_if (pc := 4) (q := .eq) (o := 29) (t := 33) (c := x1 = 0) (by decide +kernel) (ev_k_eq hx1 ev_rng0) (by decide +kernel) ?_ ?_
  · intro c2
    refine ev_r_iconst (pc := 33) (k := 0) (by decide +kernel) ?_
    exact ev_r_ireturn (pc := 34) (x := 0) (v := Int32.ofInt 0) (ty := .boolean) (by decide : ev_bl 0) (by decide +kernel) (by decide +kernel) (ev_ret_bl (by decide : ev_bl 0)) rfl
  · intro c2
    refine ev_r_aload_n (pc := 7) (k := 0) (v := .ref 3) trivial (by decide +kernel) (by rfl) ?_
    refine ev_r_getI (pc := 8) (y := 69) (ci := 7) (f := 10) (fin := 0) (by decide +kernel) (by decide +kernel) (by exact ev_ob_3) rfl ?_
    intro x3 hx3
    refine ev_r_if (pc := 11) (q := .lt) (o := 22) (t := 33) (c := x3 < 0) (by decide +kernel) (ev_k_lt hx3 ev_rng0) (by decide +kernel) ?_ ?_
    · intro c4
      refine ev_r_iconst (pc := 33) (k := 0) (by decide +kernel) ?_
      exact ev_r_ireturn (pc := 34) (x := 0) (v := Int32.ofInt 0) (ty := .boolean) (by decide : ev_bl 0) (by decide +kernel) (by decide +kernel) (ev_ret_bl (by decide : ev_bl 0)) rfl
    · intro c4
      refine ev_r_aload_n (pc := 14) (k := 0) (v := .ref 3) trivial (by decide +kernel) (by rfl) ?_
      refine ev_r_getI (pc := 15) (y := 69) (ci := 7) (f := 10) (fin := 0) (by decide +kernel) (by decide +kernel) (by exact ev_ob_3) rfl ?_
      intro x5 hx5
      refine ev_r_aload_n (pc := 18) (k := 0) (v := .ref 3) trivial (by decide +kernel) (by rfl) ?_
      refine ev_r_getC (pc := 19) (y := 30) (ci := 7) (f := 3) (fin := 1) (k' := 14) (by decide +kernel) (by decide +kernel) (by exact ev_ob_3) rfl rfl ?_
      refine ev_r_alenC (pc := 22) (kd := 3) (N := 152) (t := (.object "MendBench$Open", 17, 1)) (Or.inl rfl) (by decide +kernel) (by decide +kernel) ?_
      refine ev_r_icmp (pc := 23) (q := .ge) (o := 10) (t := 33) (c := 152 ≤ x5) (by decide +kernel) (ev_k_ge hx5 (by decide)) (by decide +kernel) ?_ ?_
      · intro c6
        refine ev_r_iconst (pc := 33) (k := 0) (by decide +kernel) ?_
        exact ev_r_ireturn (pc := 34) (x := 0) (v := Int32.ofInt 0) (ty := .boolean) (by decide : ev_bl 0) (by decide +kernel) (by decide +kernel) (ev_ret_bl (by decide : ev_bl 0)) rfl
      · intro c6
        refine ev_r_aload_n (pc := 26) (k := 0) (v := .ref 3) trivial (by decide +kernel) (by rfl) ?_
        refine ev_r_virt (pc := 27) (y := 162) (mi := 87) (na := 0) (k := 3) (as := []) (rest := []) (encc := ev_oI) (Q := ev_bl) (fun x S1 h => jt_87 d (by omega) Q   S x S1 h) (by exact ev_ob_3) (by decide +kernel) (by decide +kernel) (by decide +kernel) (by decide +kernel) rfl (by (try simp only [ev_sum, ev_nv_cat]); first | done | rfl) ?_
        intro x8 s7 hx8
        replace hx8 := ev_bl_rng hx8
        show ev_w _ _ _ _ _ [.int (Int32.ofInt x8)] _ _ _ _
        refine ev_r_if (pc := 30) (q := .ne) (o := 5) (t := 35) (c := x8 ≠ 0) (by decide +kernel) (ev_k_ne hx8 ev_rng0) (by decide +kernel) ?_ ?_
        · intro c9
          refine ev_r_aload_n (pc := 35) (k := 0) (v := .ref 3) trivial (by decide +kernel) (by rfl) ?_
          refine ev_r_iconst (pc := 36) (k := 0) (by decide +kernel) ?_
          refine ev_r_putI (pc := 37) (y := 165) (ci := 7) (f := 13) (by decide) (by decide +kernel) (by decide +kernel) (by exact ev_ob_3) rfl (ev_fit_bl (by decide : ev_bl 0)) ?_
          intro s10
          refine ev_r_aload_n (pc := 40) (k := 0) (v := .ref 3) trivial (by decide +kernel) (by rfl) ?_
          refine ev_r_iconst (pc := 41) (k := 0) (by decide +kernel) ?_
          refine ev_r_virt (pc := 42) (y := 108) (mi := 84) (na := 1) (k := 3) (as := [.int (Int32.ofInt 0)]) (rest := []) (encc := ev_oI) (Q := ev_rng) (fun x S1 h => jt_84 d (by omega) Q 0 (by decide) s10 x S1 h) (by exact ev_ob_3) (by decide +kernel) (by decide +kernel) (by decide +kernel) (by decide +kernel) rfl (by (try simp only [ev_sum, ev_nv_cat]); first | done | rfl) ?_
          intro x12 s11 hx12
          show ev_w _ _ _ _ _ [.int (Int32.ofInt x12)] _ _ _ _
          refine ev_r_istore_n (pc := 45) (k := 3) (by decide +kernel) (by decide +kernel) rfl ?_
          refine ev_r_iload_n (pc := 46) (k := 3) (v := Int32.ofInt x12) (by decide +kernel) (by exact ev_lk_st1_self) ?_
          refine ev_r_bipush (pc := 47) (k := 63) (by decide +kernel) (by decide +kernel) ?_
          refine ev_r_jn (Q := fun K => ∀ (x13 : Int) (hx13 : ev_rng x13), ∀ (s19 : ev_St) (w14 : List (Nat × Value)), ev_lk w14 0 = some (.ref 3) → ev_lk w14 1 = some (.int (Int32.ofInt a0)) → ev_lk w14 2 = some (.int (Int32.ofInt a1)) → ev_lk w14 3 = some (.int (Int32.ofInt x13)) → ev_w none (ev_Mof 92) d 68 w14 [] s19 (K x13 s19) ev_eI ev_bl) ?_ ?_
          · intro x13 hx13 s19 w14 e15 e16 e17 e18
            refine ev_r_aload_n (pc := 68) (k := 0) (v := .ref 3) trivial (by decide +kernel) (by exact e15) ?_
            refine ev_r_getC (pc := 69) (y := 30) (ci := 7) (f := 3) (fin := 1) (k' := 14) (by decide +kernel) (by decide +kernel) (by exact ev_ob_3) rfl rfl ?_
            refine ev_r_aload_n (pc := 72) (k := 0) (v := .ref 3) trivial (by decide +kernel) (by exact e15) ?_
            refine ev_r_getI (pc := 73) (y := 69) (ci := 7) (f := 10) (fin := 0) (by decide +kernel) (by decide +kernel) (by exact ev_ob_3) rfl ?_
            intro x20 hx20
            refine ev_r_aald (pc := 76) (N := 152) (b := 17) (c := 1) (C := "MendBench$Open") hx20 (by decide +kernel) (by decide +kernel) ?_
            intro c21
            refine ev_r_astore (pc := 77) (k := 4) trivial (by decide +kernel) (by decide +kernel) rfl ?_
            refine ev_r_aload_n (pc := 79) (k := 0) (v := .ref 3) trivial (by decide +kernel) (by exact (ev_l1 e15 (by decide) (by decide))) ?_
            refine ev_r_getR (pc := 80) (y := 55) (ci := 7) (f := 9) (fin := 0) (t := 5) (by decide +kernel) (by decide +kernel) (by exact ev_ob_3) rfl rfl ?_
            intro r23 hr23
            have hr23 : r23 = 0 ∨ ev_isOb (r23 - 1) 5 = true := hr23
            refine ev_r_iload_n (pc := 83) (k := 3) (v := Int32.ofInt x13) (by decide +kernel) (by exact (ev_lk_st1 e18 (by decide) rfl)) ?_
            refine ev_r_bipush (pc := 84) (k := 63) (by decide +kernel) (by decide +kernel) ?_
            refine ev_r_jn (Q := fun K => ∀ (r24 : Nat) (hr24 : ev_isOb r24 4 = true), ∀ (x26 : Int) (hx26 : ev_rng x26), ∀ (r25 : Nat) (hr25 : r25 = 0 ∨ ev_isOb (r25 - 1) 5 = true), ∀ (s33 : ev_St) (w27 : List (Nat × Value)), ev_lk w27 0 = some (.ref 3) → ev_lk w27 1 = some (.int (Int32.ofInt a0)) → ev_lk w27 2 = some (.int (Int32.ofInt a1)) → ev_lk w27 3 = some (.int (Int32.ofInt x13)) → ev_lk w27 4 = some (.ref r24) → ev_w none (ev_Mof 92) d 96 w27 [.int (Int32.ofInt x26), ev_nv r25] s33 (K r24 x26 r25 s33) ev_eI ev_bl) ?_ ?_
            · intro r24 hr24 x26 hx26 r25 hr25 s33 w27 e28 e29 e30 e31 e32
              refine ev_r_iload_n (pc := 96) (k := 1) (v := Int32.ofInt a0) (by decide +kernel) (by exact e29) ?_
              refine ev_r_iload_n (pc := 97) (k := 2) (v := Int32.ofInt a1) (by decide +kernel) (by exact e30) ?_
              refine ev_r_chk ?_
              intro c34
              refine ev_r_dr (r := r25) (fun v => [.int (Int32.ofInt a1), .int (Int32.ofInt a0), .int (Int32.ofInt x26), v]) c34 ?_
              refine ev_r_virt (pc := 98) (y := 168) (mi := 58) (na := 3) (k := (r25 - 1)) (as := [.int (Int32.ofInt x26), .int (Int32.ofInt a0), .int (Int32.ofInt a1)]) (rest := []) (encc := ev_oI) (Q := ev_rng) (fun x S1 h => jt_58 d (by omega) Q ((r25 - 1)) x26 a0 a1 (hr25.resolve_left c34) hx26 ha0 ha1 s33 x S1 h) (by exact (hr25.resolve_left c34)) (by decide +kernel) (by decide +kernel) (by decide +kernel) (by decide +kernel) rfl (by (try simp only [ev_sum, ev_nv_cat]); first | done | rfl) ?_
              intro x36 s35 hx36
              show ev_w _ _ _ _ _ [.int (Int32.ofInt x36)] _ _ _ _
              refine ev_r_istore (pc := 101) (k := 5) (by decide +kernel) (by decide +kernel) rfl ?_
              refine ev_r_aload_n (pc := 103) (k := 0) (v := .ref 3) trivial (by decide +kernel) (by exact (ev_l1 e28 (by decide) (by decide))) ?_
              refine ev_r_getR (pc := 104) (y := 55) (ci := 7) (f := 9) (fin := 0) (t := 5) (by decide +kernel) (by decide +kernel) (by exact ev_ob_3) rfl rfl ?_
              intro r37 hr37
              have hr37 : r37 = 0 ∨ ev_isOb (r37 - 1) 5 = true := hr37
              refine ev_r_iload (pc := 107) (k := 5) (v := Int32.ofInt x36) (by decide +kernel) (by exact ev_lk_st1_self) ?_
              refine ev_r_chk ?_
              intro c38
              refine ev_r_dr (r := r37) (fun v => [.int (Int32.ofInt x36), v]) c38 ?_
              refine ev_r_virt (pc := 109) (y := 179) (mi := 59) (na := 1) (k := (r37 - 1)) (as := [.int (Int32.ofInt x36)]) (rest := []) (encc := ev_oI) (Q := ev_bl) (fun x S1 h => jt_59 d (by omega) Q ((r37 - 1)) x36 (hr37.resolve_left c38) hx36 s35 x S1 h) (by exact (hr37.resolve_left c38)) (by decide +kernel) (by decide +kernel) (by decide +kernel) (by decide +kernel) rfl (by (try simp only [ev_sum, ev_nv_cat]); first | done | rfl) ?_
              intro x40 s39 hx40
              replace hx40 := ev_bl_rng hx40
              show ev_w _ _ _ _ _ [.int (Int32.ofInt x40)] _ _ _ _
              refine ev_r_if (pc := 112) (q := .ne) (o := 5) (t := 117) (c := x40 ≠ 0) (by decide +kernel) (ev_k_ne hx40 ev_rng0) (by decide +kernel) ?_ ?_
              · intro c41
                refine ev_r_aload_n (pc := 117) (k := 0) (v := .ref 3) trivial (by decide +kernel) (by exact (ev_l1 e28 (by decide) (by decide))) ?_
                refine ev_r_getR (pc := 118) (y := 55) (ci := 7) (f := 9) (fin := 0) (t := 5) (by decide +kernel) (by decide +kernel) (by exact ev_ob_3) rfl rfl ?_
                intro r42 hr42
                have hr42 : r42 = 0 ∨ ev_isOb (r42 - 1) 5 = true := hr42
                refine ev_r_chk ?_
                intro c43
                refine ev_r_dr (r := r42) (fun v => [v]) c43 ?_
                refine ev_r_getC (pc := 121) (y := 201) (ci := 5) (f := 3) (fin := 2) (k' := ((r42 - 1) + 4)) (by decide +kernel) (by decide +kernel) (by exact (hr42.resolve_left c43)) rfl rfl ?_
                refine ev_r_iload (pc := 124) (k := 5) (v := Int32.ofInt x36) (by decide +kernel) (by exact ev_lk_st1_self) ?_
                refine ev_r_aload (pc := 126) (k := 4) (v := .ref r24) trivial (by decide +kernel) (by exact (ev_lk_st1 e32 (by decide) rfl)) ?_
                refine ev_r_getI (pc := 128) (y := 189) (ci := 4) (f := 7) (fin := 0) (by decide +kernel) (by decide +kernel) (by exact hr24) rfl ?_
                intro x44 hx44
                refine ev_r_iast (pc := 131) hx44 hx36 (by decide +kernel) (by exact (ev_fo_5_3 (hr42.resolve_left c43))) ?_
                intro s45
                refine ev_r_iload_n (pc := 132) (k := 3) (v := Int32.ofInt x13) (by decide +kernel) (by exact (ev_l1 e31 (by decide) (by decide))) ?_
                refine ev_r_bipush (pc := 133) (k := 43) (by decide +kernel) (by decide +kernel) ?_
                refine ev_r_jn (Q := fun K => ∀ (x46 : Int) (hx46 : ev_rng x46), ∀ (s50 : ev_St) (w47 : List (Nat × Value)), ev_lk w47 0 = some (.ref 3) → ev_lk w47 4 = some (.ref r24) → ev_w none (ev_Mof 92) d 149 w47 [.int (Int32.ofInt x46)] s50 (K x46 s50) ev_eI ev_bl) ?_ ?_
                · intro x46 hx46 s50 w47 e48 e49
                  refine ev_r_istore (pc := 149) (k := 6) (by decide +kernel) (by decide +kernel) rfl ?_
                  refine ev_r_aload_n (pc := 151) (k := 0) (v := .ref 3) trivial (by decide +kernel) (by exact (ev_l1 e48 (by decide) (by decide))) ?_
                  refine ev_r_getR (pc := 152) (y := 55) (ci := 7) (f := 9) (fin := 0) (t := 5) (by decide +kernel) (by decide +kernel) (by exact ev_ob_3) rfl rfl ?_
                  intro r51 hr51
                  have hr51 : r51 = 0 ∨ ev_isOb (r51 - 1) 5 = true := hr51
                  refine ev_r_iload (pc := 155) (k := 6) (v := Int32.ofInt x46) (by decide +kernel) (by exact ev_lk_st1_self) ?_
                  refine ev_r_chk ?_
                  intro c52
                  refine ev_r_dr (r := r51) (fun v => [.int (Int32.ofInt x46), v]) c52 ?_
                  refine ev_r_virt (pc := 157) (y := 179) (mi := 59) (na := 1) (k := (r51 - 1)) (as := [.int (Int32.ofInt x46)]) (rest := []) (encc := ev_oI) (Q := ev_bl) (fun x S1 h => jt_59 d (by omega) Q ((r51 - 1)) x46 (hr51.resolve_left c52) hx46 s50 x S1 h) (by exact (hr51.resolve_left c52)) (by decide +kernel) (by decide +kernel) (by decide +kernel) (by decide +kernel) rfl (by (try simp only [ev_sum, ev_nv_cat]); first | done | rfl) ?_
                  intro x54 s53 hx54
                  replace hx54 := ev_bl_rng hx54
                  show ev_w _ _ _ _ _ [.int (Int32.ofInt x54)] _ _ _ _
                  refine ev_r_if (pc := 160) (q := .ne) (o := 5) (t := 165) (c := x54 ≠ 0) (by decide +kernel) (ev_k_ne hx54 ev_rng0) (by decide +kernel) ?_ ?_
                  · intro c55
                    refine ev_r_aload_n (pc := 165) (k := 0) (v := .ref 3) trivial (by decide +kernel) (by exact (ev_l1 e48 (by decide) (by decide))) ?_
                    refine ev_r_getR (pc := 166) (y := 55) (ci := 7) (f := 9) (fin := 0) (t := 5) (by decide +kernel) (by decide +kernel) (by exact ev_ob_3) rfl rfl ?_
                    intro r56 hr56
                    have hr56 : r56 = 0 ∨ ev_isOb (r56 - 1) 5 = true := hr56
                    refine ev_r_aload (pc := 169) (k := 4) (v := .ref r24) trivial (by decide +kernel) (by exact (ev_l1 e49 (by decide) (by decide))) ?_
                    refine ev_r_getI (pc := 171) (y := 198) (ci := 4) (f := 8) (fin := 0) (by decide +kernel) (by decide +kernel) (by exact hr24) rfl ?_
                    intro x57 hx57
                    refine ev_r_chk ?_
                    intro c58
                    refine ev_r_dr (r := r56) (fun v => [.int (Int32.ofInt x57), v]) c58 ?_
                    refine ev_r_virt (pc := 174) (y := 179) (mi := 59) (na := 1) (k := (r56 - 1)) (as := [.int (Int32.ofInt x57)]) (rest := []) (encc := ev_oI) (Q := ev_bl) (fun x S1 h => jt_59 d (by omega) Q ((r56 - 1)) x57 (hr56.resolve_left c58) hx57 s53 x S1 h) (by exact (hr56.resolve_left c58)) (by decide +kernel) (by decide +kernel) (by decide +kernel) (by decide +kernel) rfl (by (try simp only [ev_sum, ev_nv_cat]); first | done | rfl) ?_
                    intro x60 s59 hx60
                    replace hx60 := ev_bl_rng hx60
                    show ev_w _ _ _ _ _ [.int (Int32.ofInt x60)] _ _ _ _
                    refine ev_r_if (pc := 177) (q := .eq) (o := 21) (t := 198) (c := x60 = 0) (by decide +kernel) (ev_k_eq hx60 ev_rng0) (by decide +kernel) ?_ ?_
                    · intro c61
                      refine ev_r_aload (pc := 198) (k := 4) (v := .ref r24) trivial (by decide +kernel) (by exact (ev_l1 e49 (by decide) (by decide))) ?_
                      refine ev_r_iload (pc := 200) (k := 6) (v := Int32.ofInt x46) (by decide +kernel) (by exact ev_lk_st1_self) ?_
                      refine ev_r_putI (pc := 202) (y := 195) (ci := 4) (f := 6) hx46 (by decide +kernel) (by decide +kernel) (by exact hr24) rfl rfl ?_
                      intro s62
                      refine ev_r_aload (pc := 205) (k := 4) (v := .ref r24) trivial (by decide +kernel) (by exact (ev_l1 e49 (by decide) (by decide))) ?_
                      refine ev_r_iload (pc := 207) (k := 6) (v := Int32.ofInt x46) (by decide +kernel) (by exact ev_lk_st1_self) ?_
                      refine ev_r_putI (pc := 209) (y := 189) (ci := 4) (f := 7) hx46 (by decide +kernel) (by decide +kernel) (by exact hr24) rfl rfl ?_
                      intro s63
                      refine ev_r_iconst (pc := 212) (k := 1) (by decide +kernel) ?_
                      exact ev_r_ireturn (pc := 213) (x := 1) (v := Int32.ofInt 1) (ty := .boolean) (by decide : ev_bl 1) (by decide +kernel) (by decide +kernel) (ev_ret_bl (by decide : ev_bl 1)) rfl
                    · intro c61
                      refine ev_r_aload_n (pc := 180) (k := 0) (v := .ref 3) trivial (by decide +kernel) (by exact (ev_l1 e48 (by decide) (by decide))) ?_
                      refine ev_r_getR (pc := 181) (y := 55) (ci := 7) (f := 9) (fin := 0) (t := 5) (by decide +kernel) (by decide +kernel) (by exact ev_ob_3) rfl rfl ?_
                      intro r64 hr64
                      have hr64 : r64 = 0 ∨ ev_isOb (r64 - 1) 5 = true := hr64
                      refine ev_r_chk ?_
                      intro c65
                      refine ev_r_dr (r := r64) (fun v => [v]) c65 ?_
                      refine ev_r_getC (pc := 184) (y := 192) (ci := 5) (f := 4) (fin := 2) (k' := ((r64 - 1) + 5)) (by decide +kernel) (by decide +kernel) (by exact (hr64.resolve_left c65)) rfl rfl ?_
                      refine ev_r_aload (pc := 187) (k := 4) (v := .ref r24) trivial (by decide +kernel) (by exact (ev_l1 e49 (by decide) (by decide))) ?_
                      refine ev_r_getI (pc := 189) (y := 198) (ci := 4) (f := 8) (fin := 0) (by decide +kernel) (by decide +kernel) (by exact hr24) rfl ?_
                      intro x66 hx66
                      refine ev_r_iload (pc := 192) (k := 6) (v := Int32.ofInt x46) (by decide +kernel) (by exact ev_lk_st1_self) ?_
                      refine ev_r_iast (pc := 194) hx46 hx66 (by decide +kernel) (by exact (ev_fo_5_4 (hr64.resolve_left c65))) ?_
                      intro s67
                      refine ev_r_goto (pc := 195) (o := 10) (t := 205) (by decide +kernel) (by decide +kernel) ?_
                      refine ev_r_aload (pc := 205) (k := 4) (v := .ref r24) trivial (by decide +kernel) (by exact (ev_l1 e49 (by decide) (by decide))) ?_
                      refine ev_r_iload (pc := 207) (k := 6) (v := Int32.ofInt x46) (by decide +kernel) (by exact ev_lk_st1_self) ?_
                      refine ev_r_putI (pc := 209) (y := 189) (ci := 4) (f := 7) hx46 (by decide +kernel) (by decide +kernel) (by exact hr24) rfl rfl ?_
                      intro s68
                      refine ev_r_iconst (pc := 212) (k := 1) (by decide +kernel) ?_
                      exact ev_r_ireturn (pc := 213) (x := 1) (v := Int32.ofInt 1) (ty := .boolean) (by decide : ev_bl 1) (by decide +kernel) (by decide +kernel) (ev_ret_bl (by decide : ev_bl 1)) rfl
                  · intro c55
                    refine ev_r_iconst (pc := 163) (k := 0) (by decide +kernel) ?_
                    exact ev_r_ireturn (pc := 164) (x := 0) (v := Int32.ofInt 0) (ty := .boolean) (by decide : ev_bl 0) (by decide +kernel) (by decide +kernel) (ev_ret_bl (by decide : ev_bl 0)) rfl
                · intro K149 hK149
                  refine ev_r_icmp (pc := 135) (q := .ne) (o := 12) (t := 147) (c := x13 ≠ 43) (by decide +kernel) (ev_k_ne hx13 (by decide)) (by decide +kernel) ?_ ?_
                  · intro c69
                    refine ev_r_iload (pc := 147) (k := 5) (v := Int32.ofInt x36) (by decide +kernel) (by exact ev_lk_st1_self) ?_
                    exact hK149 x36 hx36 s45 _ (by exact (ev_l1 e28 (by decide) (by decide))) (by exact (ev_lk_st1 e32 (by decide) rfl))
                  · intro c69
                    refine ev_r_aload_n (pc := 138) (k := 0) (v := .ref 3) trivial (by decide +kernel) (by exact (ev_l1 e28 (by decide) (by decide))) ?_
                    refine ev_r_iload (pc := 139) (k := 5) (v := Int32.ofInt x36) (by decide +kernel) (by exact ev_lk_st1_self) ?_
                    refine ev_r_virt (pc := 141) (y := 204) (mi := 93) (na := 1) (k := 3) (as := [.int (Int32.ofInt x36)]) (rest := []) (encc := ev_oI) (Q := ev_rng) (fun x S1 h => jt_93 d (by omega) Q x36 hx36 s45 x S1 h) (by exact ev_ob_3) (by decide +kernel) (by decide +kernel) (by decide +kernel) (by decide +kernel) rfl (by (try simp only [ev_sum, ev_nv_cat]); first | done | rfl) ?_
                    intro x71 s70 hx71
                    show ev_w _ _ _ _ _ [.int (Int32.ofInt x71)] _ _ _ _
                    refine ev_r_goto (pc := 144) (o := 5) (t := 149) (by decide +kernel) (by decide +kernel) ?_
                    exact hK149 x71 hx71 s70 _ (by exact (ev_l1 e28 (by decide) (by decide))) (by exact (ev_lk_st1 e32 (by decide) rfl))
              · intro c41
                refine ev_r_iconst (pc := 115) (k := 0) (by decide +kernel) ?_
                exact ev_r_ireturn (pc := 116) (x := 0) (v := Int32.ofInt 0) (ty := .boolean) (by decide : ev_bl 0) (by decide +kernel) (by decide +kernel) (ev_ret_bl (by decide : ev_bl 0)) rfl
            · intro K96 hK96
              refine ev_r_icmp (pc := 86) (q := .ne) (o := 8) (t := 94) (c := x13 ≠ 63) (by decide +kernel) (ev_k_ne hx13 (by decide)) (by decide +kernel) ?_ ?_
              · intro c72
                refine ev_r_bipush (pc := 94) (k := 13) (by decide +kernel) (by decide +kernel) ?_
                exact hK96 ((17 + 1 * Int.toNat x20)) (ev_el_14 c21) 13 (by decide) r23 hr23 s19 _ (by exact (ev_l1 e15 (by decide) (by decide))) (by exact (ev_l1 e16 (by decide) (by decide))) (by exact (ev_l1 e17 (by decide) (by decide))) (by exact (ev_lk_st1 e18 (by decide) rfl)) (by exact ev_lk_st1_self)
              · intro c72
                refine ev_r_bipush (pc := 89) (k := 14) (by decide +kernel) (by decide +kernel) ?_
                refine ev_r_goto (pc := 91) (o := 5) (t := 96) (by decide +kernel) (by decide +kernel) ?_
                exact hK96 ((17 + 1 * Int.toNat x20)) (ev_el_14 c21) 14 (by decide) r23 hr23 s19 _ (by exact (ev_l1 e15 (by decide) (by decide))) (by exact (ev_l1 e16 (by decide) (by decide))) (by exact (ev_l1 e17 (by decide) (by decide))) (by exact (ev_lk_st1 e18 (by decide) rfl)) (by exact ev_lk_st1_self)
          · intro K68 hK68
            refine ev_r_jn (Q := fun K => ∀ (x73 : Int) (hx73 : ev_rng x73), ∀ (s79 : ev_St) (w74 : List (Nat × Value)), ev_lk w74 0 = some (.ref 3) → ev_lk w74 1 = some (.int (Int32.ofInt a0)) → ev_lk w74 2 = some (.int (Int32.ofInt a1)) → ev_lk w74 3 = some (.int (Int32.ofInt x73)) → ev_w none (ev_Mof 92) d 58 w74 [] s79 (K x73 s79) ev_eI ev_bl) ?_ ?_
            · intro x73 hx73 s79 w74 e75 e76 e77 e78
              refine ev_r_aload_n (pc := 58) (k := 0) (v := .ref 3) trivial (by decide +kernel) (by exact e75) ?_
              refine ev_r_dup (pc := 59) rfl (by decide +kernel) ?_
              refine ev_r_getI (pc := 60) (y := 63) (ci := 7) (f := 8) (fin := 0) (by decide +kernel) (by decide +kernel) (by exact ev_ob_3) rfl ?_
              intro x80 hx80
              refine ev_r_iconst (pc := 63) (k := 1) (by decide +kernel) ?_
              refine ev_r_iadd (pc := 64) (by decide +kernel) ?_
              intro x81 hx81
              refine ev_r_putI (pc := 65) (y := 63) (ci := 7) (f := 8) hx81 (by decide +kernel) (by decide +kernel) (by exact ev_ob_3) rfl rfl ?_
              intro s82
              exact hK68 x73 hx73 s82 _ (by exact e75) (by exact e76) (by exact e77) (by exact e78)
            · intro K58 hK58
              refine ev_r_icmp (pc := 49) (q := .eq) (o := 9) (t := 58) (c := x12 = 63) (by decide +kernel) (ev_k_eq hx12 (by decide)) (by decide +kernel) ?_ ?_
              · intro c83
                exact hK58 x12 hx12 s11 _ (by exact (ev_l1 (by rfl) (by decide) (by decide))) (by exact (ev_l1 (by rfl) (by decide) (by decide))) (by exact (ev_lk_st1 (by rfl) (by decide) rfl)) (by exact ev_lk_st1_self)
              · intro c83
                refine ev_r_iload_n (pc := 52) (k := 3) (v := Int32.ofInt x12) (by decide +kernel) (by exact ev_lk_st1_self) ?_
                refine ev_r_bipush (pc := 53) (k := 43) (by decide +kernel) (by decide +kernel) ?_
                refine ev_r_icmp (pc := 55) (q := .ne) (o := 13) (t := 68) (c := x12 ≠ 43) (by decide +kernel) (ev_k_ne hx12 (by decide)) (by decide +kernel) ?_ ?_
                · intro c84
                  exact hK68 x12 hx12 s11 _ (by exact (ev_l1 (by rfl) (by decide) (by decide))) (by exact (ev_l1 (by rfl) (by decide) (by decide))) (by exact (ev_lk_st1 (by rfl) (by decide) rfl)) (by exact ev_lk_st1_self)
                · intro c84
                  exact hK58 x12 hx12 s11 _ (by exact (ev_l1 (by rfl) (by decide) (by decide))) (by exact (ev_l1 (by rfl) (by decide) (by decide))) (by exact (ev_lk_st1 (by rfl) (by decide) rfl)) (by exact ev_lk_st1_self)
        · intro c9
          refine ev_r_iconst (pc := 33) (k := 0) (by decide +kernel) ?_
          exact ev_r_ireturn (pc := 34) (x := 0) (v := Int32.ofInt 0) (ty := .boolean) (by decide : ev_bl 0) (by decide +kernel) (by decide +kernel) (ev_ret_bl (by decide : ev_bl 0)) rfl
/-- MendBench$Reader.readNumber()I -/
def jm_95 (Q : Nat)  (S : ev_St) : Option ((Int) × ev_St) := ev_bd (jm_84 Q 0 S) fun x2 s1 => ev_bd (jm_208 Q x2 s1) fun x4 s3 => if x4 ≠ 0 then (ev_bd (jm_84 Q 0 s3) fun x7 s6 => ev_ck (x7 - 48) fun x8 => ev_b (s6.1 3 8) fun x9 => ev_ck (x9 + 1) fun x10 => ev_b (ev_pI s6 3 8 x10) fun s11 => ev_bd (jm_84 Q 0 s11) fun x13 s12 => ev_bd (jm_208 Q x13 s12) fun x15 s14 => if x15 = 0 then (some (x8, s14)) else (ev_ck (10 * x8) fun x17 => ev_bd (jm_84 Q 0 s14) fun x19 s18 => ev_ck (x17 + x19) fun x20 => ev_ck (x20 - 48) fun x21 => ev_b (s18.1 3 8) fun x22 => ev_ck (x22 + 1) fun x23 => ev_b (ev_pI s18 3 8 x23) fun s24 => some (x21, s24))) else (some ((-1), s3))
theorem jt_95 (d : Nat) (hd : 3 ≤ d) (Q : Nat)   (S : ev_St) (x : Int) (S' : ev_St) (hJ : jm_95 Q  S = some (x, S')) : ev_Ref d 95 [.ref 3] S (ev_eI x) S' (ev_rng x) := by
  obtain ⟨d, rfl⟩ : ∃ e, d = e + 1 := ⟨d - 1, by omega⟩
  refine ev_ref_of (P := ev_rng) (lv := [(0, .ref 3)]) (by decide +kernel) (by (try simp only [ev_sum, ev_nv_cat]); first | done | rfl) (by (try simp only [lv_args, ev_nv_cat]); first | done | rfl) ?_ x S' hJ
  unfold jm_95
  refine ev_r_aload_n (pc := 0) (k := 0) (v := .ref 3) trivial (by decide +kernel) (by rfl) ?_
  refine ev_r_iconst (pc := 1) (k := 0) (by decide +kernel) ?_
  refine ev_r_virt (pc := 2) (y := 108) (mi := 84) (na := 1) (k := 3) (as := [.int (Int32.ofInt 0)]) (rest := []) (encc := ev_oI) (Q := ev_rng) (fun x S1 h => jt_84 d (by omega) Q 0 (by decide) S x S1 h) (by exact ev_ob_3) (by decide +kernel) (by decide +kernel) (by decide +kernel) (by decide +kernel) rfl (by (try simp only [ev_sum, ev_nv_cat]); first | done | rfl) ?_
  intro x2 s1 hx2
  show ev_w _ _ _ _ _ [.int (Int32.ofInt x2)] _ _ _ _
  refine ev_r_stat (pc := 5) (y := 211) (kind := 5) (mi := 208) (na := 1) (as := [.int (Int32.ofInt x2)]) (rest := []) (encc := ev_oI) (Q := ev_bl) (fun x S1 h => jt_208 d (by omega) Q x2 hx2 s1 x S1 h) (Or.inr (Or.inl rfl)) (by decide +kernel) (by decide +kernel) (by decide +kernel) (by decide +kernel) rfl (by (try simp only [ev_sum, ev_nv_cat]); first | done | rfl) ?_
  intro x4 s3 hx4
  replace hx4 := ev_bl_rng hx4
  show ev_w _ _ _ _ _ [.int (Int32.ofInt x4)] _ _ _ _
  refine ev_r_if (pc := 8) (q := .ne) (o := 5) (t := 13) (c := x4 ≠ 0) (by decide +kernel) (ev_k_ne hx4 ev_rng0) (by decide +kernel) ?_ ?_
  · intro c5
    refine ev_r_aload_n (pc := 13) (k := 0) (v := .ref 3) trivial (by decide +kernel) (by rfl) ?_
    refine ev_r_iconst (pc := 14) (k := 0) (by decide +kernel) ?_
    refine ev_r_virt (pc := 15) (y := 108) (mi := 84) (na := 1) (k := 3) (as := [.int (Int32.ofInt 0)]) (rest := []) (encc := ev_oI) (Q := ev_rng) (fun x S1 h => jt_84 d (by omega) Q 0 (by decide) s3 x S1 h) (by exact ev_ob_3) (by decide +kernel) (by decide +kernel) (by decide +kernel) (by decide +kernel) rfl (by (try simp only [ev_sum, ev_nv_cat]); first | done | rfl) ?_
    intro x7 s6 hx7
    show ev_w _ _ _ _ _ [.int (Int32.ofInt x7)] _ _ _ _
    refine ev_r_bipush (pc := 18) (k := 48) (by decide +kernel) (by decide +kernel) ?_
    refine ev_r_isub (pc := 20) (by decide +kernel) ?_
    intro x8 hx8
    refine ev_r_istore_n (pc := 21) (k := 1) (by decide +kernel) (by decide +kernel) rfl ?_
    refine ev_r_aload_n (pc := 22) (k := 0) (v := .ref 3) trivial (by decide +kernel) (by exact (ev_lk_st1 (by rfl) (by decide) rfl)) ?_
    refine ev_r_dup (pc := 23) rfl (by decide +kernel) ?_
    refine ev_r_getI (pc := 24) (y := 63) (ci := 7) (f := 8) (fin := 0) (by decide +kernel) (by decide +kernel) (by exact ev_ob_3) rfl ?_
    intro x9 hx9
    refine ev_r_iconst (pc := 27) (k := 1) (by decide +kernel) ?_
    refine ev_r_iadd (pc := 28) (by decide +kernel) ?_
    intro x10 hx10
    refine ev_r_putI (pc := 29) (y := 63) (ci := 7) (f := 8) hx10 (by decide +kernel) (by decide +kernel) (by exact ev_ob_3) rfl rfl ?_
    intro s11
    refine ev_r_aload_n (pc := 32) (k := 0) (v := .ref 3) trivial (by decide +kernel) (by exact (ev_lk_st1 (by rfl) (by decide) rfl)) ?_
    refine ev_r_iconst (pc := 33) (k := 0) (by decide +kernel) ?_
    refine ev_r_virt (pc := 34) (y := 108) (mi := 84) (na := 1) (k := 3) (as := [.int (Int32.ofInt 0)]) (rest := []) (encc := ev_oI) (Q := ev_rng) (fun x S1 h => jt_84 d (by omega) Q 0 (by decide) s11 x S1 h) (by exact ev_ob_3) (by decide +kernel) (by decide +kernel) (by decide +kernel) (by decide +kernel) rfl (by (try simp only [ev_sum, ev_nv_cat]); first | done | rfl) ?_
    intro x13 s12 hx13
    show ev_w _ _ _ _ _ [.int (Int32.ofInt x13)] _ _ _ _
    refine ev_r_stat (pc := 37) (y := 211) (kind := 5) (mi := 208) (na := 1) (as := [.int (Int32.ofInt x13)]) (rest := []) (encc := ev_oI) (Q := ev_bl) (fun x S1 h => jt_208 d (by omega) Q x13 hx13 s12 x S1 h) (Or.inr (Or.inl rfl)) (by decide +kernel) (by decide +kernel) (by decide +kernel) (by decide +kernel) rfl (by (try simp only [ev_sum, ev_nv_cat]); first | done | rfl) ?_
    intro x15 s14 hx15
    replace hx15 := ev_bl_rng hx15
    show ev_w _ _ _ _ _ [.int (Int32.ofInt x15)] _ _ _ _
    refine ev_r_if (pc := 40) (q := .eq) (o := 27) (t := 67) (c := x15 = 0) (by decide +kernel) (ev_k_eq hx15 ev_rng0) (by decide +kernel) ?_ ?_
    · intro c16
      refine ev_r_iload_n (pc := 67) (k := 1) (v := Int32.ofInt x8) (by decide +kernel) (by exact ev_lk_st1_self) ?_
      exact ev_r_ireturn (pc := 68) (x := x8) (v := Int32.ofInt x8) (ty := .int) hx8 (by decide +kernel) (by decide +kernel) rfl rfl
    · intro c16
      refine ev_r_bipush (pc := 43) (k := 10) (by decide +kernel) (by decide +kernel) ?_
      refine ev_r_iload_n (pc := 45) (k := 1) (v := Int32.ofInt x8) (by decide +kernel) (by exact ev_lk_st1_self) ?_
      refine ev_r_imul (pc := 46) (by decide +kernel) ?_
      intro x17 hx17
      refine ev_r_aload_n (pc := 47) (k := 0) (v := .ref 3) trivial (by decide +kernel) (by exact (ev_lk_st1 (by rfl) (by decide) rfl)) ?_
      refine ev_r_iconst (pc := 48) (k := 0) (by decide +kernel) ?_
      refine ev_r_virt (pc := 49) (y := 108) (mi := 84) (na := 1) (k := 3) (as := [.int (Int32.ofInt 0)]) (rest := [.int (Int32.ofInt x17)]) (encc := ev_oI) (Q := ev_rng) (fun x S1 h => jt_84 d (by omega) Q 0 (by decide) s14 x S1 h) (by exact ev_ob_3) (by decide +kernel) (by decide +kernel) (by decide +kernel) (by decide +kernel) rfl (by (try simp only [ev_sum, ev_nv_cat]); first | done | rfl) ?_
      intro x19 s18 hx19
      show ev_w _ _ _ _ _ [.int (Int32.ofInt x19), .int (Int32.ofInt x17)] _ _ _ _
      refine ev_r_iadd (pc := 52) (by decide +kernel) ?_
      intro x20 hx20
      refine ev_r_bipush (pc := 53) (k := 48) (by decide +kernel) (by decide +kernel) ?_
      refine ev_r_isub (pc := 55) (by decide +kernel) ?_
      intro x21 hx21
      refine ev_r_istore_n (pc := 56) (k := 1) (by decide +kernel) (by decide +kernel) rfl ?_
      refine ev_r_aload_n (pc := 57) (k := 0) (v := .ref 3) trivial (by decide +kernel) (by exact (ev_lk_st1 (ev_lk_st1 (by rfl) (by decide) rfl) (by decide) rfl)) ?_
      refine ev_r_dup (pc := 58) rfl (by decide +kernel) ?_
      refine ev_r_getI (pc := 59) (y := 63) (ci := 7) (f := 8) (fin := 0) (by decide +kernel) (by decide +kernel) (by exact ev_ob_3) rfl ?_
      intro x22 hx22
      refine ev_r_iconst (pc := 62) (k := 1) (by decide +kernel) ?_
      refine ev_r_iadd (pc := 63) (by decide +kernel) ?_
      intro x23 hx23
      refine ev_r_putI (pc := 64) (y := 63) (ci := 7) (f := 8) hx23 (by decide +kernel) (by decide +kernel) (by exact ev_ob_3) rfl rfl ?_
      intro s24
      refine ev_r_iload_n (pc := 67) (k := 1) (v := Int32.ofInt x21) (by decide +kernel) (by exact ev_lk_st1_self) ?_
      exact ev_r_ireturn (pc := 68) (x := x21) (v := Int32.ofInt x21) (ty := .int) hx21 (by decide +kernel) (by decide +kernel) rfl rfl
  · intro c5
    refine ev_r_iconst (pc := 11) (k := -1) (by decide +kernel) ?_
    exact ev_r_ireturn (pc := 12) (x := (-1)) (v := Int32.ofInt ((-1))) (ty := .int) (by decide) (by decide +kernel) (by decide +kernel) rfl rfl
/-- MendBench$Reader.readBounds()Z -/
def jm_94 (Q : Nat)  (S : ev_St) : Option ((Int) × ev_St) := ev_bd (jm_95 Q  S) fun x2 s1 => ev_bd (jm_84 Q 0 s1) fun x4 s3 => ev_jn (fun (x5 : Int) (x6 : Int) (s11 : ev_St) => ev_bd (jm_84 Q 0 s11) fun x13 s12 => ev_jn (fun (x14 : Int) (s19 : ev_St) => ev_b (s19.1 3 8) fun x20 => ev_ck (x20 + 1) fun x21 => ev_b (ev_pI s19 3 8 x21) fun s22 => if x14 = 0 then (some (0, s22)) else (if x5 < 0 then (some (0, s22)) else (if 20 < x5 then (some (0, s22)) else (if x6 ≤ 20 then (ev_jn (fun  (s31 : ev_St) => ev_bd (jm_92 Q x5 x6 s31) fun x33 s32 => if x33 = 0 then (some (0, s32)) else (some (1, s32))) fun K104 => if x6 = (-1) then (K104  s22) else (if x6 < x5 then (some (0, s22)) else (K104  s22))) else (some (0, s22)))))) fun K61 => if x13 ≠ 125 then (K61 0 s12) else (K61 1 s12)) fun K46 => if x4 ≠ 44 then (K46 x2 x2 s3) else (ev_b (s3.1 3 8) fun x39 => ev_ck (x39 + 1) fun x40 => ev_b (ev_pI s3 3 8 x40) fun s41 => ev_bd (jm_84 Q 0 s41) fun x43 s42 => ev_jn (fun (x44 : Int) (s48 : ev_St) => K46 x2 x44 s48) fun K45 => if x43 ≠ 125 then (ev_bd (jm_95 Q  s42) fun x51 s50 => K45 x51 s50) else (K45 ((-1)) s42))
theorem jt_94 (d : Nat) (hd : 4 ≤ d) (Q : Nat)   (S : ev_St) (x : Int) (S' : ev_St) (hJ : jm_94 Q  S = some (x, S')) : ev_Ref d 94 [.ref 3] S (ev_eI x) S' (ev_bl x) := by
  obtain ⟨d, rfl⟩ : ∃ e, d = e + 1 := ⟨d - 1, by omega⟩
  refine ev_ref_of (P := ev_bl) (lv := [(0, .ref 3)]) (by decide +kernel) (by (try simp only [ev_sum, ev_nv_cat]); first | done | rfl) (by (try simp only [lv_args, ev_nv_cat]); first | done | rfl) ?_ x S' hJ
  unfold jm_94
  refine ev_r_aload_n (pc := 0) (k := 0) (v := .ref 3) trivial (by decide +kernel) (by rfl) ?_
  refine ev_r_virt (pc := 1) (y := 207) (mi := 95) (na := 0) (k := 3) (as := []) (rest := []) (encc := ev_oI) (Q := ev_rng) (fun x S1 h => jt_95 d (by omega) Q   S x S1 h) (by exact ev_ob_3) (by decide +kernel) (by decide +kernel) (by decide +kernel) (by decide +kernel) rfl (by (try simp only [ev_sum, ev_nv_cat]); first | done | rfl) ?_
  intro x2 s1 hx2
  show ev_w _ _ _ _ _ [.int (Int32.ofInt x2)] _ _ _ _
  refine ev_r_istore_n (pc := 4) (k := 1) (by decide +kernel) (by decide +kernel) rfl ?_
  refine ev_r_iload_n (pc := 5) (k := 1) (v := Int32.ofInt x2) (by decide +kernel) (by exact ev_lk_st1_self) ?_
  refine ev_r_istore_n (pc := 6) (k := 2) (by decide +kernel) (by decide +kernel) rfl ?_
  refine ev_r_aload_n (pc := 7) (k := 0) (v := .ref 3) trivial (by decide +kernel) (by exact (ev_l1 (ev_lk_st1 (by rfl) (by decide) rfl) (by decide) (by decide))) ?_
  refine ev_r_iconst (pc := 8) (k := 0) (by decide +kernel) ?_
  refine ev_r_virt (pc := 9) (y := 108) (mi := 84) (na := 1) (k := 3) (as := [.int (Int32.ofInt 0)]) (rest := []) (encc := ev_oI) (Q := ev_rng) (fun x S1 h => jt_84 d (by omega) Q 0 (by decide) s1 x S1 h) (by exact ev_ob_3) (by decide +kernel) (by decide +kernel) (by decide +kernel) (by decide +kernel) rfl (by (try simp only [ev_sum, ev_nv_cat]); first | done | rfl) ?_
  intro x4 s3 hx4
  show ev_w _ _ _ _ _ [.int (Int32.ofInt x4)] _ _ _ _
  refine ev_r_bipush (pc := 12) (k := 44) (by decide +kernel) (by decide +kernel) ?_
  refine ev_r_jn (Q := fun K => ∀ (x5 : Int) (hx5 : ev_rng x5), ∀ (x6 : Int) (hx6 : ev_rng x6), ∀ (s11 : ev_St) (w7 : List (Nat × Value)), ev_lk w7 0 = some (.ref 3) → ev_lk w7 1 = some (.int (Int32.ofInt x5)) → ev_lk w7 2 = some (.int (Int32.ofInt x6)) → ev_w none (ev_Mof 94) d 46 w7 [] s11 (K x5 x6 s11) ev_eI ev_bl) ?_ ?_
  · intro x5 hx5 x6 hx6 s11 w7 e8 e9 e10
    refine ev_r_aload_n (pc := 46) (k := 0) (v := .ref 3) trivial (by decide +kernel) (by exact e8) ?_
    refine ev_r_iconst (pc := 47) (k := 0) (by decide +kernel) ?_
    refine ev_r_virt (pc := 48) (y := 108) (mi := 84) (na := 1) (k := 3) (as := [.int (Int32.ofInt 0)]) (rest := []) (encc := ev_oI) (Q := ev_rng) (fun x S1 h => jt_84 d (by omega) Q 0 (by decide) s11 x S1 h) (by exact ev_ob_3) (by decide +kernel) (by decide +kernel) (by decide +kernel) (by decide +kernel) rfl (by (try simp only [ev_sum, ev_nv_cat]); first | done | rfl) ?_
    intro x13 s12 hx13
    show ev_w _ _ _ _ _ [.int (Int32.ofInt x13)] _ _ _ _
    refine ev_r_bipush (pc := 51) (k := 125) (by decide +kernel) (by decide +kernel) ?_
    refine ev_r_jn (Q := fun K => ∀ (x14 : Int) (hx14 : ev_rng x14), ∀ (s19 : ev_St) (w15 : List (Nat × Value)), ev_lk w15 0 = some (.ref 3) → ev_lk w15 1 = some (.int (Int32.ofInt x5)) → ev_lk w15 2 = some (.int (Int32.ofInt x6)) → ev_w none (ev_Mof 94) d 61 w15 [.int (Int32.ofInt x14)] s19 (K x14 s19) ev_eI ev_bl) ?_ ?_
    · intro x14 hx14 s19 w15 e16 e17 e18
      refine ev_r_istore_n (pc := 61) (k := 3) (by decide +kernel) (by decide +kernel) rfl ?_
      refine ev_r_aload_n (pc := 62) (k := 0) (v := .ref 3) trivial (by decide +kernel) (by exact (ev_l1 e16 (by decide) (by decide))) ?_
      refine ev_r_dup (pc := 63) rfl (by decide +kernel) ?_
      refine ev_r_getI (pc := 64) (y := 63) (ci := 7) (f := 8) (fin := 0) (by decide +kernel) (by decide +kernel) (by exact ev_ob_3) rfl ?_
      intro x20 hx20
      refine ev_r_iconst (pc := 67) (k := 1) (by decide +kernel) ?_
      refine ev_r_iadd (pc := 68) (by decide +kernel) ?_
      intro x21 hx21
      refine ev_r_putI (pc := 69) (y := 63) (ci := 7) (f := 8) hx21 (by decide +kernel) (by decide +kernel) (by exact ev_ob_3) rfl rfl ?_
      intro s22
      refine ev_r_iload_n (pc := 72) (k := 3) (v := Int32.ofInt x14) (by decide +kernel) (by exact ev_lk_st1_self) ?_
      refine ev_r_if (pc := 73) (q := .eq) (o := 19) (t := 92) (c := x14 = 0) (by decide +kernel) (ev_k_eq hx14 ev_rng0) (by decide +kernel) ?_ ?_
      · intro c23
        refine ev_r_iconst (pc := 92) (k := 0) (by decide +kernel) ?_
        exact ev_r_ireturn (pc := 93) (x := 0) (v := Int32.ofInt 0) (ty := .boolean) (by decide : ev_bl 0) (by decide +kernel) (by decide +kernel) (ev_ret_bl (by decide : ev_bl 0)) rfl
      · intro c23
        refine ev_r_iload_n (pc := 76) (k := 1) (v := Int32.ofInt x5) (by decide +kernel) (by exact (ev_l1 e17 (by decide) (by decide))) ?_
        refine ev_r_if (pc := 77) (q := .lt) (o := 15) (t := 92) (c := x5 < 0) (by decide +kernel) (ev_k_lt hx5 ev_rng0) (by decide +kernel) ?_ ?_
        · intro c24
          refine ev_r_iconst (pc := 92) (k := 0) (by decide +kernel) ?_
          exact ev_r_ireturn (pc := 93) (x := 0) (v := Int32.ofInt 0) (ty := .boolean) (by decide : ev_bl 0) (by decide +kernel) (by decide +kernel) (ev_ret_bl (by decide : ev_bl 0)) rfl
        · intro c24
          refine ev_r_iload_n (pc := 80) (k := 1) (v := Int32.ofInt x5) (by decide +kernel) (by exact (ev_l1 e17 (by decide) (by decide))) ?_
          refine ev_r_bipush (pc := 81) (k := 20) (by decide +kernel) (by decide +kernel) ?_
          refine ev_r_icmp (pc := 83) (q := .gt) (o := 9) (t := 92) (c := 20 < x5) (by decide +kernel) (ev_k_gt hx5 (by decide)) (by decide +kernel) ?_ ?_
          · intro c25
            refine ev_r_iconst (pc := 92) (k := 0) (by decide +kernel) ?_
            exact ev_r_ireturn (pc := 93) (x := 0) (v := Int32.ofInt 0) (ty := .boolean) (by decide : ev_bl 0) (by decide +kernel) (by decide +kernel) (ev_ret_bl (by decide : ev_bl 0)) rfl
          · intro c25
            refine ev_r_iload_n (pc := 86) (k := 2) (v := Int32.ofInt x6) (by decide +kernel) (by exact (ev_lk_st1 e18 (by decide) rfl)) ?_
            refine ev_r_bipush (pc := 87) (k := 20) (by decide +kernel) (by decide +kernel) ?_
            refine ev_r_icmp (pc := 89) (q := .le) (o := 5) (t := 94) (c := x6 ≤ 20) (by decide +kernel) (ev_k_le hx6 (by decide)) (by decide +kernel) ?_ ?_
            · intro c26
              refine ev_r_iload_n (pc := 94) (k := 2) (v := Int32.ofInt x6) (by decide +kernel) (by exact (ev_lk_st1 e18 (by decide) rfl)) ?_
              refine ev_r_iconst (pc := 95) (k := -1) (by decide +kernel) ?_
              refine ev_r_jn (Q := fun K => ∀ (s31 : ev_St) (w27 : List (Nat × Value)), ev_lk w27 0 = some (.ref 3) → ev_lk w27 1 = some (.int (Int32.ofInt x5)) → ev_lk w27 2 = some (.int (Int32.ofInt x6)) → ev_w none (ev_Mof 94) d 104 w27 [] s31 (K  s31) ev_eI ev_bl) ?_ ?_
              · intro  s31 w27 e28 e29 e30
                refine ev_r_aload_n (pc := 104) (k := 0) (v := .ref 3) trivial (by decide +kernel) (by exact e28) ?_
                refine ev_r_iload_n (pc := 105) (k := 1) (v := Int32.ofInt x5) (by decide +kernel) (by exact e29) ?_
                refine ev_r_iload_n (pc := 106) (k := 2) (v := Int32.ofInt x6) (by decide +kernel) (by exact e30) ?_
                refine ev_r_virt (pc := 107) (y := 121) (mi := 92) (na := 2) (k := 3) (as := [.int (Int32.ofInt x5), .int (Int32.ofInt x6)]) (rest := []) (encc := ev_oI) (Q := ev_bl) (fun x S1 h => jt_92 d (by omega) Q x5 x6 hx5 hx6 s31 x S1 h) (by exact ev_ob_3) (by decide +kernel) (by decide +kernel) (by decide +kernel) (by decide +kernel) rfl (by (try simp only [ev_sum, ev_nv_cat]); first | done | rfl) ?_
                intro x33 s32 hx33
                replace hx33 := ev_bl_rng hx33
                show ev_w _ _ _ _ _ [.int (Int32.ofInt x33)] _ _ _ _
                refine ev_r_if (pc := 110) (q := .eq) (o := 7) (t := 117) (c := x33 = 0) (by decide +kernel) (ev_k_eq hx33 ev_rng0) (by decide +kernel) ?_ ?_
                · intro c34
                  refine ev_r_iconst (pc := 117) (k := 0) (by decide +kernel) ?_
                  exact ev_r_ireturn (pc := 118) (x := 0) (v := Int32.ofInt 0) (ty := .boolean) (by decide : ev_bl 0) (by decide +kernel) (by decide +kernel) (ev_ret_bl (by decide : ev_bl 0)) rfl
                · intro c34
                  refine ev_r_iconst (pc := 113) (k := 1) (by decide +kernel) ?_
                  refine ev_r_goto (pc := 114) (o := 4) (t := 118) (by decide +kernel) (by decide +kernel) ?_
                  exact ev_r_ireturn (pc := 118) (x := 1) (v := Int32.ofInt 1) (ty := .boolean) (by decide : ev_bl 1) (by decide +kernel) (by decide +kernel) (ev_ret_bl (by decide : ev_bl 1)) rfl
              · intro K104 hK104
                refine ev_r_icmp (pc := 96) (q := .eq) (o := 8) (t := 104) (c := x6 = (-1)) (by decide +kernel) (ev_k_eq hx6 (by decide)) (by decide +kernel) ?_ ?_
                · intro c35
                  exact hK104  s22 _ (by exact (ev_l1 e16 (by decide) (by decide))) (by exact (ev_l1 e17 (by decide) (by decide))) (by exact (ev_lk_st1 e18 (by decide) rfl))
                · intro c35
                  refine ev_r_iload_n (pc := 99) (k := 2) (v := Int32.ofInt x6) (by decide +kernel) (by exact (ev_lk_st1 e18 (by decide) rfl)) ?_
                  refine ev_r_iload_n (pc := 100) (k := 1) (v := Int32.ofInt x5) (by decide +kernel) (by exact (ev_l1 e17 (by decide) (by decide))) ?_
                  refine ev_r_icmp (pc := 101) (q := .lt) (o := 16) (t := 117) (c := x6 < x5) (by decide +kernel) (ev_k_lt hx6 hx5) (by decide +kernel) ?_ ?_
                  · intro c36
                    refine ev_r_iconst (pc := 117) (k := 0) (by decide +kernel) ?_
                    exact ev_r_ireturn (pc := 118) (x := 0) (v := Int32.ofInt 0) (ty := .boolean) (by decide : ev_bl 0) (by decide +kernel) (by decide +kernel) (ev_ret_bl (by decide : ev_bl 0)) rfl
                  · intro c36
                    exact hK104  s22 _ (by exact (ev_l1 e16 (by decide) (by decide))) (by exact (ev_l1 e17 (by decide) (by decide))) (by exact (ev_lk_st1 e18 (by decide) rfl))
            · intro c26
              refine ev_r_iconst (pc := 92) (k := 0) (by decide +kernel) ?_
              exact ev_r_ireturn (pc := 93) (x := 0) (v := Int32.ofInt 0) (ty := .boolean) (by decide : ev_bl 0) (by decide +kernel) (by decide +kernel) (ev_ret_bl (by decide : ev_bl 0)) rfl
    · intro K61 hK61
      refine ev_r_icmp (pc := 53) (q := .ne) (o := 7) (t := 60) (c := x13 ≠ 125) (by decide +kernel) (ev_k_ne hx13 (by decide)) (by decide +kernel) ?_ ?_
      · intro c37
        refine ev_r_iconst (pc := 60) (k := 0) (by decide +kernel) ?_
        exact hK61 0 (by decide) s12 _ (by exact e8) (by exact e9) (by exact e10)
      · intro c37
        refine ev_r_iconst (pc := 56) (k := 1) (by decide +kernel) ?_
        refine ev_r_goto (pc := 57) (o := 4) (t := 61) (by decide +kernel) (by decide +kernel) ?_
        exact hK61 1 (by decide) s12 _ (by exact e8) (by exact e9) (by exact e10)
  · intro K46 hK46
    refine ev_r_icmp (pc := 14) (q := .ne) (o := 32) (t := 46) (c := x4 ≠ 44) (by decide +kernel) (ev_k_ne hx4 (by decide)) (by decide +kernel) ?_ ?_
    · intro c38
      exact hK46 x2 hx2 x2 hx2 s3 _ (by exact (ev_l1 (ev_lk_st1 (by rfl) (by decide) rfl) (by decide) (by decide))) (by exact (ev_lk_st1 ev_lk_st1_self (by decide) rfl)) (by exact ev_lk_st1_self)
    · intro c38
      refine ev_r_aload_n (pc := 17) (k := 0) (v := .ref 3) trivial (by decide +kernel) (by exact (ev_l1 (ev_lk_st1 (by rfl) (by decide) rfl) (by decide) (by decide))) ?_
      refine ev_r_dup (pc := 18) rfl (by decide +kernel) ?_
      refine ev_r_getI (pc := 19) (y := 63) (ci := 7) (f := 8) (fin := 0) (by decide +kernel) (by decide +kernel) (by exact ev_ob_3) rfl ?_
      intro x39 hx39
      refine ev_r_iconst (pc := 22) (k := 1) (by decide +kernel) ?_
      refine ev_r_iadd (pc := 23) (by decide +kernel) ?_
      intro x40 hx40
      refine ev_r_putI (pc := 24) (y := 63) (ci := 7) (f := 8) hx40 (by decide +kernel) (by decide +kernel) (by exact ev_ob_3) rfl rfl ?_
      intro s41
      refine ev_r_aload_n (pc := 27) (k := 0) (v := .ref 3) trivial (by decide +kernel) (by exact (ev_l1 (ev_lk_st1 (by rfl) (by decide) rfl) (by decide) (by decide))) ?_
      refine ev_r_iconst (pc := 28) (k := 0) (by decide +kernel) ?_
      refine ev_r_virt (pc := 29) (y := 108) (mi := 84) (na := 1) (k := 3) (as := [.int (Int32.ofInt 0)]) (rest := []) (encc := ev_oI) (Q := ev_rng) (fun x S1 h => jt_84 d (by omega) Q 0 (by decide) s41 x S1 h) (by exact ev_ob_3) (by decide +kernel) (by decide +kernel) (by decide +kernel) (by decide +kernel) rfl (by (try simp only [ev_sum, ev_nv_cat]); first | done | rfl) ?_
      intro x43 s42 hx43
      show ev_w _ _ _ _ _ [.int (Int32.ofInt x43)] _ _ _ _
      refine ev_r_bipush (pc := 32) (k := 125) (by decide +kernel) (by decide +kernel) ?_
      refine ev_r_jn (Q := fun K => ∀ (x44 : Int) (hx44 : ev_rng x44), ∀ (s48 : ev_St) (w45 : List (Nat × Value)), ev_lk w45 0 = some (.ref 3) → ev_lk w45 1 = some (.int (Int32.ofInt x2)) → ev_w none (ev_Mof 94) d 45 w45 [.int (Int32.ofInt x44)] s48 (K x44 s48) ev_eI ev_bl) ?_ ?_
      · intro x44 hx44 s48 w45 e46 e47
        refine ev_r_istore_n (pc := 45) (k := 2) (by decide +kernel) (by decide +kernel) rfl ?_
        exact hK46 x2 hx2 x44 hx44 s48 _ (by exact (ev_l1 e46 (by decide) (by decide))) (by exact (ev_lk_st1 e47 (by decide) rfl)) (by exact ev_lk_st1_self)
      · intro K45 hK45
        refine ev_r_icmp (pc := 34) (q := .ne) (o := 7) (t := 41) (c := x43 ≠ 125) (by decide +kernel) (ev_k_ne hx43 (by decide)) (by decide +kernel) ?_ ?_
        · intro c49
          refine ev_r_aload_n (pc := 41) (k := 0) (v := .ref 3) trivial (by decide +kernel) (by exact (ev_l1 (ev_lk_st1 (by rfl) (by decide) rfl) (by decide) (by decide))) ?_
          refine ev_r_virt (pc := 42) (y := 207) (mi := 95) (na := 0) (k := 3) (as := []) (rest := []) (encc := ev_oI) (Q := ev_rng) (fun x S1 h => jt_95 d (by omega) Q   s42 x S1 h) (by exact ev_ob_3) (by decide +kernel) (by decide +kernel) (by decide +kernel) (by decide +kernel) rfl (by (try simp only [ev_sum, ev_nv_cat]); first | done | rfl) ?_
          intro x51 s50 hx51
          show ev_w _ _ _ _ _ [.int (Int32.ofInt x51)] _ _ _ _
          exact hK45 x51 hx51 s50 _ (by exact (ev_l1 (ev_lk_st1 (by rfl) (by decide) rfl) (by decide) (by decide))) (by exact (ev_lk_st1 ev_lk_st1_self (by decide) rfl))
        · intro c49
          refine ev_r_iconst (pc := 37) (k := -1) (by decide +kernel) ?_
          refine ev_r_goto (pc := 38) (o := 7) (t := 45) (by decide +kernel) (by decide +kernel) ?_
          exact hK45 ((-1)) (by decide) s42 _ (by exact (ev_l1 (ev_lk_st1 (by rfl) (by decide) rfl) (by decide) (by decide))) (by exact (ev_lk_st1 ev_lk_st1_self (by decide) rfl))
/-- MendBench$Reader.isOn(I)Z -/
def jm_86 (Q : Nat) (a0 : Int) (S : ev_St) : Option ((Int) × ev_St) := ev_b (S.1 3 11) fun x1 => ev_b (ev_iand x1 a0) fun x2 => if x2 = 0 then (some (0, S)) else (some (1, S))
theorem jt_86 (d : Nat) (hd : 1 ≤ d) (Q : Nat) (a0 : Int) (ha0 : ev_rng a0) (S : ev_St) (x : Int) (S' : ev_St) (hJ : jm_86 Q a0 S = some (x, S')) : ev_Ref d 86 [.ref 3, .int (Int32.ofInt a0)] S (ev_eI x) S' (ev_bl x) := by
  obtain ⟨d, rfl⟩ : ∃ e, d = e + 1 := ⟨d - 1, by omega⟩
  refine ev_ref_of (P := ev_bl) (lv := [(0, .ref 3), (1, .int (Int32.ofInt a0))]) (by decide +kernel) (by (try simp only [ev_sum, ev_nv_cat]); first | done | rfl) (by (try simp only [lv_args, ev_nv_cat]); first | done | rfl) ?_ x S' hJ
  unfold jm_86
  refine ev_r_aload_n (pc := 0) (k := 0) (v := .ref 3) trivial (by decide +kernel) (by rfl) ?_
  refine ev_r_getI (pc := 1) (y := 72) (ci := 7) (f := 11) (fin := 0) (by decide +kernel) (by decide +kernel) (by exact ev_ob_3) rfl ?_
  intro x1 hx1
  refine ev_r_iload_n (pc := 4) (k := 1) (v := Int32.ofInt a0) (by decide +kernel) (by rfl) ?_
  refine ev_r_iand (pc := 5) (by decide +kernel) ?_
  intro x2 hx2
  refine ev_r_if (pc := 6) (q := .eq) (o := 7) (t := 13) (c := x2 = 0) (by decide +kernel) (ev_k_eq hx2 ev_rng0) (by decide +kernel) ?_ ?_
  · intro c3
    refine ev_r_iconst (pc := 13) (k := 0) (by decide +kernel) ?_
    exact ev_r_ireturn (pc := 14) (x := 0) (v := Int32.ofInt 0) (ty := .boolean) (by decide : ev_bl 0) (by decide +kernel) (by decide +kernel) (ev_ret_bl (by decide : ev_bl 0)) rfl
  · intro c3
    refine ev_r_iconst (pc := 9) (k := 1) (by decide +kernel) ?_
    refine ev_r_goto (pc := 10) (o := 4) (t := 14) (by decide +kernel) (by decide +kernel) ?_
    exact ev_r_ireturn (pc := 14) (x := 1) (v := Int32.ofInt 1) (ty := .boolean) (by decide : ev_bl 1) (by decide +kernel) (by decide +kernel) (ev_ret_bl (by decide : ev_bl 1)) rfl
/-- MendBench$Reader.addSigns(JJ)Z -/
def jm_90 (Q : Nat) (a0 : Int64) (a1 : Int64) (S : ev_St) : Option ((Int) × ev_St) := ev_bd (jm_87 Q  S) fun x2 s1 => ev_jn (fun (x3 : Int) (s8 : ev_St) => ev_b (s8.2.2.1 3 9) fun r9 => ev_if (r9 ≠ 0) (ev_bd (jm_59 Q ((r9 - 1)) x3 s8) fun x12 s11 => if x12 ≠ 0 then (ev_b (s11.2.2.1 3 9) fun r14 => ev_if (r14 ≠ 0) (ev_if ((0 : Int) ≤ x3 ∧ x3 < (ev_aln (((r14 - 1) + 8)) : Int)) (ev_b (ev_pL s11 (((r14 - 1) + 8)) (Int.toNat x3) a0) fun s16 => ev_b (s16.2.2.1 3 9) fun r17 => ev_if (r17 ≠ 0) (ev_if ((0 : Int) ≤ x3 ∧ x3 < (ev_aln (((r17 - 1) + 9)) : Int)) (ev_b (ev_pL s16 (((r17 - 1) + 9)) (Int.toNat x3) a1) fun s19 => ev_b (ev_pI s19 3 13 1) fun s20 => ev_bd (jm_91 Q x3 s20) fun x22 s21 => ev_if (ev_bl x22) (some (x22, s21))))))) else (some (0, s11)))) fun K21 => if x2 = 0 then (K21 ((-1)) s1) else (ev_b (s1.2.2.1 3 9) fun r25 => ev_if (r25 ≠ 0) (ev_bd (jm_58 Q ((r25 - 1)) 0 0 0 s1) fun x28 s27 => K21 x28 s27))
theorem jt_90 (d : Nat) (hd : 3 ≤ d) (Q : Nat) (a0 : Int64) (a1 : Int64)  (S : ev_St) (x : Int) (S' : ev_St) (hJ : jm_90 Q a0 a1 S = some (x, S')) : ev_Ref d 90 [.ref 3, .long a0, .long a1] S (ev_eI x) S' (ev_bl x) := by
  obtain ⟨d, rfl⟩ : ∃ e, d = e + 1 := ⟨d - 1, by omega⟩
  refine ev_ref_of (P := ev_bl) (lv := [(0, .ref 3), (1, .long a0), (3, .long a1)]) (by decide +kernel) (by (try simp only [ev_sum, ev_nv_cat]); first | done | rfl) (by (try simp only [lv_args, ev_nv_cat]); first | done | rfl) ?_ x S' hJ
  unfold jm_90
  refine ev_r_aload_n (pc := 0) (k := 0) (v := .ref 3) trivial (by decide +kernel) (by rfl) ?_
  refine ev_r_virt (pc := 1) (y := 162) (mi := 87) (na := 0) (k := 3) (as := []) (rest := []) (encc := ev_oI) (Q := ev_bl) (fun x S1 h => jt_87 d (by omega) Q   S x S1 h) (by exact ev_ob_3) (by decide +kernel) (by decide +kernel) (by decide +kernel) (by decide +kernel) rfl (by (try simp only [ev_sum, ev_nv_cat]); first | done | rfl) ?_
  intro x2 s1 hx2
  replace hx2 := ev_bl_rng hx2
  show ev_w _ _ _ _ _ [.int (Int32.ofInt x2)] _ _ _ _
  refine ev_r_jn (Q := fun K => ∀ (x3 : Int) (hx3 : ev_rng x3), ∀ (s8 : ev_St) (w4 : List (Nat × Value)), ev_lk w4 0 = some (.ref 3) → ev_lk w4 1 = some (.long a0) → ev_lk w4 3 = some (.long a1) → ev_w none (ev_Mof 90) d 21 w4 [.int (Int32.ofInt x3)] s8 (K x3 s8) ev_eI ev_bl) ?_ ?_
  · intro x3 hx3 s8 w4 e5 e6 e7
    refine ev_r_istore (pc := 21) (k := 5) (by decide +kernel) (by decide +kernel) rfl ?_
    refine ev_r_aload_n (pc := 23) (k := 0) (v := .ref 3) trivial (by decide +kernel) (by exact (ev_l1 e5 (by decide) (by decide))) ?_
    refine ev_r_getR (pc := 24) (y := 55) (ci := 7) (f := 9) (fin := 0) (t := 5) (by decide +kernel) (by decide +kernel) (by exact ev_ob_3) rfl rfl ?_
    intro r9 hr9
    have hr9 : r9 = 0 ∨ ev_isOb (r9 - 1) 5 = true := hr9
    refine ev_r_iload (pc := 27) (k := 5) (v := Int32.ofInt x3) (by decide +kernel) (by exact ev_lk_st1_self) ?_
    refine ev_r_chk ?_
    intro c10
    refine ev_r_dr (r := r9) (fun v => [.int (Int32.ofInt x3), v]) c10 ?_
    refine ev_r_virt (pc := 29) (y := 179) (mi := 59) (na := 1) (k := (r9 - 1)) (as := [.int (Int32.ofInt x3)]) (rest := []) (encc := ev_oI) (Q := ev_bl) (fun x S1 h => jt_59 d (by omega) Q ((r9 - 1)) x3 (hr9.resolve_left c10) hx3 s8 x S1 h) (by exact (hr9.resolve_left c10)) (by decide +kernel) (by decide +kernel) (by decide +kernel) (by decide +kernel) rfl (by (try simp only [ev_sum, ev_nv_cat]); first | done | rfl) ?_
    intro x12 s11 hx12
    replace hx12 := ev_bl_rng hx12
    show ev_w _ _ _ _ _ [.int (Int32.ofInt x12)] _ _ _ _
    refine ev_r_if (pc := 32) (q := .ne) (o := 5) (t := 37) (c := x12 ≠ 0) (by decide +kernel) (ev_k_ne hx12 ev_rng0) (by decide +kernel) ?_ ?_
    · intro c13
      refine ev_r_aload_n (pc := 37) (k := 0) (v := .ref 3) trivial (by decide +kernel) (by exact (ev_l1 e5 (by decide) (by decide))) ?_
      refine ev_r_getR (pc := 38) (y := 55) (ci := 7) (f := 9) (fin := 0) (t := 5) (by decide +kernel) (by decide +kernel) (by exact ev_ob_3) rfl rfl ?_
      intro r14 hr14
      have hr14 : r14 = 0 ∨ ev_isOb (r14 - 1) 5 = true := hr14
      refine ev_r_chk ?_
      intro c15
      refine ev_r_dr (r := r14) (fun v => [v]) c15 ?_
      refine ev_r_getC (pc := 41) (y := 182) (ci := 5) (f := 7) (fin := 2) (k' := ((r14 - 1) + 8)) (by decide +kernel) (by decide +kernel) (by exact (hr14.resolve_left c15)) rfl rfl ?_
      refine ev_r_iload (pc := 44) (k := 5) (v := Int32.ofInt x3) (by decide +kernel) (by exact ev_lk_st1_self) ?_
      refine ev_r_lload_n (pc := 46) (k := 1) (v := a0) (by decide +kernel) (by exact (ev_l1 e6 (by decide) (by decide))) ?_
      refine ev_r_last (pc := 47) hx3 (by decide +kernel) (by exact (ev_fo_5_7 (hr14.resolve_left c15))) ?_
      intro s16
      refine ev_r_aload_n (pc := 48) (k := 0) (v := .ref 3) trivial (by decide +kernel) (by exact (ev_l1 e5 (by decide) (by decide))) ?_
      refine ev_r_getR (pc := 49) (y := 55) (ci := 7) (f := 9) (fin := 0) (t := 5) (by decide +kernel) (by decide +kernel) (by exact ev_ob_3) rfl rfl ?_
      intro r17 hr17
      have hr17 : r17 = 0 ∨ ev_isOb (r17 - 1) 5 = true := hr17
      refine ev_r_chk ?_
      intro c18
      refine ev_r_dr (r := r17) (fun v => [v]) c18 ?_
      refine ev_r_getC (pc := 52) (y := 186) (ci := 5) (f := 8) (fin := 2) (k' := ((r17 - 1) + 9)) (by decide +kernel) (by decide +kernel) (by exact (hr17.resolve_left c18)) rfl rfl ?_
      refine ev_r_iload (pc := 55) (k := 5) (v := Int32.ofInt x3) (by decide +kernel) (by exact ev_lk_st1_self) ?_
      refine ev_r_lload_n (pc := 57) (k := 3) (v := a1) (by decide +kernel) (by exact (ev_l1 e7 (by decide) (by decide))) ?_
      refine ev_r_last (pc := 58) hx3 (by decide +kernel) (by exact (ev_fo_5_8 (hr17.resolve_left c18))) ?_
      intro s19
      refine ev_r_aload_n (pc := 59) (k := 0) (v := .ref 3) trivial (by decide +kernel) (by exact (ev_l1 e5 (by decide) (by decide))) ?_
      refine ev_r_iconst (pc := 60) (k := 1) (by decide +kernel) ?_
      refine ev_r_putI (pc := 61) (y := 165) (ci := 7) (f := 13) (by decide) (by decide +kernel) (by decide +kernel) (by exact ev_ob_3) rfl (ev_fit_bl (by decide : ev_bl 1)) ?_
      intro s20
      refine ev_r_aload_n (pc := 64) (k := 0) (v := .ref 3) trivial (by decide +kernel) (by exact (ev_l1 e5 (by decide) (by decide))) ?_
      refine ev_r_iload (pc := 65) (k := 5) (v := Int32.ofInt x3) (by decide +kernel) (by exact ev_lk_st1_self) ?_
      refine ev_r_virt (pc := 67) (y := 172) (mi := 91) (na := 1) (k := 3) (as := [.int (Int32.ofInt x3)]) (rest := []) (encc := ev_oI) (Q := ev_bl) (fun x S1 h => jt_91 d (by omega) Q x3 hx3 s20 x S1 h) (by exact ev_ob_3) (by decide +kernel) (by decide +kernel) (by decide +kernel) (by decide +kernel) rfl (by (try simp only [ev_sum, ev_nv_cat]); first | done | rfl) ?_
      intro x22 s21 hx22
      replace hx22 := ev_bl_rng hx22
      show ev_w _ _ _ _ _ [.int (Int32.ofInt x22)] _ _ _ _
      refine ev_r_chk ?_
      intro c23
      exact ev_r_ireturn (pc := 70) (x := x22) (v := Int32.ofInt x22) (ty := .boolean) c23 (by decide +kernel) (by decide +kernel) (ev_ret_bl c23) rfl
    · intro c13
      refine ev_r_iconst (pc := 35) (k := 0) (by decide +kernel) ?_
      exact ev_r_ireturn (pc := 36) (x := 0) (v := Int32.ofInt 0) (ty := .boolean) (by decide : ev_bl 0) (by decide +kernel) (by decide +kernel) (ev_ret_bl (by decide : ev_bl 0)) rfl
  · intro K21 hK21
    refine ev_r_if (pc := 4) (q := .eq) (o := 16) (t := 20) (c := x2 = 0) (by decide +kernel) (ev_k_eq hx2 ev_rng0) (by decide +kernel) ?_ ?_
    · intro c24
      refine ev_r_iconst (pc := 20) (k := -1) (by decide +kernel) ?_
      exact hK21 ((-1)) (by decide) s1 _ (by rfl) (by rfl) (by rfl)
    · intro c24
      refine ev_r_aload_n (pc := 7) (k := 0) (v := .ref 3) trivial (by decide +kernel) (by rfl) ?_
      refine ev_r_getR (pc := 8) (y := 55) (ci := 7) (f := 9) (fin := 0) (t := 5) (by decide +kernel) (by decide +kernel) (by exact ev_ob_3) rfl rfl ?_
      intro r25 hr25
      have hr25 : r25 = 0 ∨ ev_isOb (r25 - 1) 5 = true := hr25
      refine ev_r_iconst (pc := 11) (k := 0) (by decide +kernel) ?_
      refine ev_r_iconst (pc := 12) (k := 0) (by decide +kernel) ?_
      refine ev_r_iconst (pc := 13) (k := 0) (by decide +kernel) ?_
      refine ev_r_chk ?_
      intro c26
      refine ev_r_dr (r := r25) (fun v => [.int (Int32.ofInt 0), .int (Int32.ofInt 0), .int (Int32.ofInt 0), v]) c26 ?_
      refine ev_r_virt (pc := 14) (y := 168) (mi := 58) (na := 3) (k := (r25 - 1)) (as := [.int (Int32.ofInt 0), .int (Int32.ofInt 0), .int (Int32.ofInt 0)]) (rest := []) (encc := ev_oI) (Q := ev_rng) (fun x S1 h => jt_58 d (by omega) Q ((r25 - 1)) 0 0 0 (hr25.resolve_left c26) (by decide) (by decide) (by decide) s1 x S1 h) (by exact (hr25.resolve_left c26)) (by decide +kernel) (by decide +kernel) (by decide +kernel) (by decide +kernel) rfl (by (try simp only [ev_sum, ev_nv_cat]); first | done | rfl) ?_
      intro x28 s27 hx28
      show ev_w _ _ _ _ _ [.int (Int32.ofInt x28)] _ _ _ _
      refine ev_r_goto (pc := 17) (o := 4) (t := 21) (by decide +kernel) (by decide +kernel) ?_
      exact hK21 x28 hx28 s27 _ (by rfl) (by rfl) (by rfl)
