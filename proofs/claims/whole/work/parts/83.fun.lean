/-! MORE FUEL changes nothing -/
abbrev ev_Cll : Type := Nat → List Value → List ev_E → Nat → Option ev_Z
def ev_csub (c c' : ev_Cll) : Prop := ∀ mi as h n z, c mi as h n = some z → c' mi as h n = some z
theorem ev_back_mono {M : ev_M} {pc : Nat} {lv : List (Nat × Value)} {rest : List Value} {b : Bool} {x y : Option ev_Z} {s : ev_S} (hxy : ∀ z, x = some z → y = some z) (h : ev_back M pc lv rest (ev_ansOf b x) = some s) : ev_back M pc lv rest (ev_ansOf b y) = some s := by
  cases x with
  | none =>
    exfalso
    cases b <;> cases h
  | some z => rw [hxy z rfl]; exact h
theorem ev_inv_mono {P : Nat → Option ev_M} {M : ev_M} {c c' : ev_Cll} (hc : ev_csub c c') {pc n op : Nat} {lv : List (Nat × Value)} {st : List Value} {h : List ev_E} {L : Option ev_L} {s : ev_S} (e : ev_inv P M c pc lv st h n op L = some s) : ev_inv P M c' pc lv st h n op L = some s := by
  unfold ev_inv at e ⊢
  split at e
  · next kind mi na =>
    try dsimp only at e ⊢
    split at e
    · next e6 => (try rw [e6]); exact e
    · next e6 =>
      try rw [e6]
      try dsimp only
      split at e
      · next e7 => (try rw [e7]); exact e
      · next e7 =>
        try rw [e7]
        try dsimp only
        split at e
        · next e9 => (try rw [e9]); exact e
        · next e9 =>
          try rw [e9]
          try dsimp only
          split at e
          · next Y hY =>
            try rw [hY]
            try dsimp only
            split at e
            · next ea =>
              try rw [ea]
              try dsimp only
              split at e
              · next eo =>
                try rw [eo]
                try dsimp only
                split at e
                · next as rest ep =>
                  try rw [ep]
                  try dsimp only
                  split at e
                  · next es =>
                    try rw [es]
                    exact ev_back_mono (fun z hz => hc _ _ _ _ _ hz) e
                  · cases e
                · cases e
              · next eo =>
                try rw [eo]
                try dsimp only
                split at e
                · next as rest ep =>
                  try rw [ep]
                  try dsimp only
                  split at e
                  · next es =>
                    try rw [es]
                    exact ev_back_mono (fun z hz => hc _ _ _ _ _ hz) e
                  · cases e
                · cases e
            · cases e
          · cases e
  · cases e
theorem ev_g_some {α : Type} {len k : Nat} {x y : Option α} {z : α} (h : ev_g len k x = some z) (hxy : ∀ w, x = some w → y = some w) : ev_g len k y = some z := by
  unfold ev_g at h ⊢
  split at h
  · next e => (try rw [e]); exact hxy z h
  · cases h
theorem ev_ctl_mono {P : Nat → Option ev_M} {Lk : Nat → Nat → Option ev_L} {M : ev_M} {c c' : ev_Cll} (hc : ev_csub c c') {i : Instr} {len pc n : Nat} {lv : List (Nat × Value)} {st : List Value} {h : List ev_E} {s : ev_S} (e : ev_ctl P Lk M c i len pc lv st h n = some s) : ev_ctl P Lk M c' i len pc lv st h n = some s := by
  unfold ev_ctl at e ⊢
  split at e
  · exact ev_g_some e (fun w hw => ev_inv_mono hc hw)
  · exact ev_g_some e (fun w hw => ev_inv_mono hc hw)
  · exact ev_g_some e (fun w hw => ev_inv_mono hc hw)
  · cases e
/-- what is no invoke knows nothing of calls -/
def ev_isInv : Instr → Bool
  | .invokevirtual _ => true
  | .invokespecial _ => true
  | .invokestatic _ => true
  | _ => false
theorem ev_ctl_no {P : Nat → Option ev_M} {Lk : Nat → Nat → Option ev_L} {M : ev_M} {c : ev_Cll} {i : Instr} {len pc n : Nat} {lv : List (Nat × Value)} {st : List Value} {h : List ev_E} (hi : ev_isInv i = false) : ev_ctl P Lk M c i len pc lv st h n = none := by
  unfold ev_ctl
  split
  · cases hi
  · cases hi
  · cases hi
  · rfl
theorem ev_scr_no {X : ev_X} {i : Instr} {len pc n : Nat} {lv : List (Nat × Value)} {st : List Value} {h : List ev_E} (hi : ev_isInv i = true) : ev_scr X i len pc lv st h n = none := by
  unfold ev_scr
  split
  · rfl
  · split
    · cases hi
    · cases hi
    · rfl
theorem ev_sF_mono {X : ev_X} {M : ev_M} {c c' : ev_Cll} (hc : ev_csub c c') {pc n : Nat} {lv : List (Nat × Value)} {st : List Value} {h : List ev_E} {s : ev_S} (e : ev_sF X c M pc lv st h n = some s) : ev_sF X c' M pc lv st h n = some s := by
  unfold ev_sF ev_one at e ⊢
  split at e
  · cases e
  · next i len hm =>
    try rw [hm]
    try dsimp only at e ⊢
    split at e
    · exact e
    · next hp =>
      try rw [hp]
      try dsimp only at e ⊢
      split at e
      · exact e
      · next hq =>
        try rw [hq]
        try dsimp only at e ⊢
        split at e
        · next z hz =>
          cases e
          rw [ev_ctl_mono hc hz]
        · next hz =>
          cases hiv : ev_isInv i with
          | true => rw [ev_scr_no hiv] at e; cases e
          | false => rw [ev_ctl_no hiv]; exact e
theorem ev_sF_eq {X : ev_X} {M : ev_M} {c c' : ev_Cll} {pc n len : Nat} {i : Instr} {lv : List (Nat × Value)} {st : List Value} {h : List ev_E} (hm : M.1 pc = some (i, len)) (hi : ev_isInv i = false) : ev_sF X c M pc lv st h n = ev_sF X c' M pc lv st h n := by
  unfold ev_sF ev_one
  try rw [hm]
  try dsimp only
  rw [ev_ctl_no hi, ev_ctl_no hi]
theorem ev_end_inv {M : ev_M} {d : Nat} {r : ev_R} {z : ev_Z} (h : ev_end ev_TXs M d r = some z) : ∃ i len, M.1 r.1 = some (i, len) ∧ ev_isInv i = false := by
  obtain ⟨pc, st, hh, n, a, b⟩ := r
  unfold ev_end at h
  dsimp only at h
  split at h
  · next e => exact ⟨_, _, e, rfl⟩
  · next e => exact ⟨_, _, e, rfl⟩
  · next e => exact ⟨_, _, e, rfl⟩
  · next e => exact ⟨_, _, e, rfl⟩
  · next e => exact ⟨_, _, e, rfl⟩
  · cases h
theorem ev_crun_mono {X : ev_X} {M : ev_M} {c c' : ev_Cll} (hc : ev_csub c c') {d : Nat} {z : ev_Z} : ∀ {f f' : Nat} {pc n a b : Nat} {lv : List (Nat × Value)} {st : List Value} {h : List ev_E} {r : ev_R}, f ≤ f' → ev_run (ev_sF X c M) f pc lv st h n a b = some r → ev_end ev_TXs M d r = some z → ev_run (ev_sF X c' M) f' pc lv st h n a b = some r
  | 0, _, _, _, _, _, _, _, _, _, _, e, _ => by cases e
  | f + 1, 0, _, _, _, _, _, _, _, _, hf, _, _ => absurd hf (by omega)
  | f + 1, f' + 1, pc, n, a, b, lv, st, h, r, hf, e, he => by
    unfold ev_run at e ⊢
    split at e
    · next pc1 lv1 st1 h1 n1 dc ds hs =>
      rw [ev_sF_mono hc hs]
      exact ev_crun_mono hc (by omega) e he
    · next hs =>
      cases e
      obtain ⟨i, len, hm, hi⟩ := ev_end_inv he
      rw [ev_sF_eq (c' := c) hm hi, hs]
theorem ev_cF_mono {F F' : Nat} (hF : F ≤ F') : ∀ d : Nat, ev_csub (ev_cF F d) (ev_cF F' d)
  | 0 => fun mi as h n z e => by cases e
  | d + 1 => fun mi as h n z e => by
    have e0 : ∀ G, ev_cF G (d + 1) mi as h n = (match ev_P mi with
      | some M => (match Nat.ble (ev_sum as) M.2.1 with
        | true => (match ev_run (ev_sF none (ev_cF G d) M) G 0 (lv_args 0 as) [] h n 0 0 with
          | some r => ev_end ev_TXs M (d + 1) r
          | none => none)
        | false => none)
      | none => none) := fun G => rfl
    rw [e0] at e ⊢
    split at e
    · next M hM =>
      split at e
      · next hb =>
        split at e
        · next r hr =>
          rw [ev_crun_mono (ev_cF_mono hF d) hF hr e]
          exact e
        · cases e
      · cases e
    · cases e
/-! THE CELLS at the head of the law's loop, as numbers -/
def ev_H00 : List ev_E := ev_sL4.2.2.2.1
def ev_rn : Value → Nat
  | .ref k => k + 1
  | _ => 0
def ev_gt {α : Type} (f : Value → α) (d : Value) (g : List (Nat × Value) → Nat → α) (k i : Nat) : α := match ev_H00[k]? with
  | some (.inl (_, _, l)) => g l i
  | some (.inr (_, fs)) => f (fs.getD i d)
  | none => f d
def ev_S0 : ev_St := (ev_gt (fun v => (ev_int v).toInt) .null (fun l i => (ev_int (ev_rd (.int 0) l i)).toInt), ev_gt ev_long .null (fun l i => ev_long (ev_rd (.long 0) l i)), ev_gt ev_rn .null (fun l i => ev_rn (ev_rd .null l i)), fun _ => false, 724, 724, 3553586)
def ev_vB (k : Nat) : Nat × Nat → Value → Bool
  | (0, _), .int _ => true
  | (1, _), .long _ => true
  | (2, z), .ref a => Nat.beq a (k + z)
  | (3, _), .null => true
  | (3, _), .ref _ => true
  | _, _ => false
def ev_vsB (k : Nat) : List (Nat × Nat) → List Value → Bool
  | [], [] => true
  | q :: l, v :: t => ev_vB k q v && ev_vsB k l t
  | _, _ => false
def ev_clB (k : Nat) : Nat × Nat × FieldType × Nat × Nat → ev_E → Bool
  | (0, ci, _), .inr (c, fs) => Nat.beq c ci && ev_vsB k (ev_fks ci) fs
  | (1, N, ty, _), .inl (t, n, _) => Nat.beq n N && decide (t = ty)
  | (2, N, ty, _), .inl (t, n, _) => Nat.beq n N && decide (t = ty)
  | (3, N, ty, b, c), .inl (t, n, l) => Nat.beq n N && (decide (t = ty) && (List.range N).all (fun i => decide (ev_ref (ev_rd .null l i) = .ref (b + c * i))))
  | (4, N, ty, _), .inl (t, n, _) => Nat.beq n N && decide (t = ty)
  | _, _ => false
def ev_csB : Nat → List (Nat × Nat × FieldType × Nat × Nat) → List ev_E → Bool
  | _, [], [] => true
  | k, s :: l, e :: t => ev_clB k s e && ev_csB (k + 1) l t
  | _, _, _ => false
theorem ev_csB_ok : ∀ {l : List (Nat × Nat × FieldType × Nat × Nat)} {t : List ev_E} {i : Nat}, ev_csB i l t = true → ∀ k s e, l[k]? = some s → t[k]? = some e → ev_clB (i + k) s e = true
  | [], [], _, _, k, s, e, h, _ => by cases h
  | s0 :: l, e0 :: t, i, hb, 0, s, e, h1, h2 => by
    cases h1
    cases h2
    unfold ev_csB at hb
    rw [Bool.and_eq_true] at hb
    exact hb.1
  | s0 :: l, e0 :: t, i, hb, k + 1, s, e, h1, h2 => by
    unfold ev_csB at hb
    rw [Bool.and_eq_true] at hb
    have := ev_csB_ok hb.2 k s e h1 h2
    rw [show i + (k + 1) = i + 1 + k by omega]
    exact this
  | [], _ :: _, _, hb, _, _, _, _, _ => by cases hb
  | _ :: _, [], _, hb, _, _, _, _, _ => by cases hb
theorem ev_H00_csB : ev_csB 0 ev_shs ev_H00 = true := by decide +kernel
theorem ev_H00_len : ev_H00.length = 724 := by decide +kernel
theorem ev_vsB_ok {k : Nat} {S : ev_St} : ∀ {l : List (Nat × Nat)} {t : List Value} {j : Nat}, ev_vsB k l t = true → (∀ i v, t[i]? = some v → S.1 k (j + i) = (ev_int v).toInt ∧ S.2.1 k (j + i) = ev_long v ∧ S.2.2.1 k (j + i) = ev_rn v) → t = l.mapIdx (fun f q => ev_fv S k (j + f) q)
  | [], [], _, _, _ => rfl
  | [], _ :: _, _, h, _ => by cases h
  | _ :: _, [], _, h, _ => by cases h
  | q :: l, v :: t, j, h, hS => by
    unfold ev_vsB at h
    rw [Bool.and_eq_true] at h
    obtain ⟨s1, s2, s3⟩ := hS 0 v rfl
    have ih := ev_vsB_ok (S := S) (j := j + 1) h.2 (fun i v hi => by
      have := hS (i + 1) v hi
      rw [show j + (i + 1) = j + 1 + i by omega] at this
      exact this)
    rw [List.mapIdx_cons]
    have hv : v = ev_fv S k (j + 0) q := by
      have hq := h.1
      unfold ev_vB at hq
      unfold ev_fv
      split at hq
      · next x => 
        show _ = Value.int (Int32.ofInt (S.1 k (j + 0)))
        rw [s1]
        show _ = Value.int (Int32.ofInt x.toInt)
        rw [ev_io]
      · show _ = Value.long (S.2.1 k (j + 0))
        rw [s2]
        rfl
      · rw [Nat.eq_of_beq_eq_true hq]
        rfl
      · show _ = ev_nv (S.2.2.1 k (j + 0))
        rw [s3]
        rfl
      · show _ = ev_nv (S.2.2.1 k (j + 0))
        rw [s3]
        rfl
      · cases hq
    rw [← hv, ih]
    congr 1
    refine List.ext_getElem? (fun i => ?_)
    rw [List.getElem?_mapIdx, List.getElem?_mapIdx]
    cases l[i]? with
    | none => rfl
    | some q' =>
      show some _ = some _
      rw [show j + 1 + i = j + (i + 1) by omega]
theorem ev_ref_nv (v : Value) : ev_ref v = ev_nv (ev_rn v) := by
  cases v <;> rfl
/-- the cells at the head of the law's loop are those numbers -/
theorem ev_V0_cells (k : Nat) (e : ev_E) (he : ev_H00[k]? = some e) : ev_cv ev_S0 k (ev_sh ev_S0 k) e := by
  have hk : k < 724 := by
    have := (List.getElem?_eq_some_iff.mp he).1
    rw [ev_H00_len] at this
    exact this
  obtain ⟨s, hs⟩ : ∃ s, ev_shs[k]? = some s := ⟨_, List.getElem?_eq_getElem (l := ev_shs) (i := k) (by rw [ev_shs_len]; exact hk)⟩
  have hb := ev_csB_ok ev_H00_csB k _ e hs he
  rw [Nat.zero_add] at hb
  rw [ev_sh_of hs]
  obtain ⟨q, N, ty, b, c⟩ := s
  have g1 : ∀ i, ev_S0.1 k i = ev_gt (fun v => (ev_int v).toInt) .null (fun l i => (ev_int (ev_rd (.int 0) l i)).toInt) k i := fun _ => rfl
  have g2 : ∀ i, ev_S0.2.1 k i = ev_gt ev_long .null (fun l i => ev_long (ev_rd (.long 0) l i)) k i := fun _ => rfl
  have g3 : ∀ i, ev_S0.2.2.1 k i = ev_gt ev_rn .null (fun l i => ev_rn (ev_rd .null l i)) k i := fun _ => rfl
  unfold ev_gt at g1 g2 g3
  rw [he] at g1 g2 g3
  unfold ev_clB at hb
  split at hb
  · next ci t c' fs heq =>
    cases heq
    rw [Bool.and_eq_true] at hb
    have hc := Nat.eq_of_beq_eq_true hb.1
    subst hc
    show _ = _
    have := ev_vsB_ok (k := k) (S := ev_S0) (j := 0) hb.2 (fun i v hi => by
      rw [Nat.zero_add, g1, g2, g3]
      dsimp only
      rw [List.getD_eq_getElem?_getD, hi]
      exact ⟨rfl, rfl, rfl⟩)
    have hz : (fun f q => ev_fv ev_S0 k (0 + f) q) = (fun f q => ev_fv ev_S0 k f q) := by
      funext f q
      rw [Nat.zero_add]
    rw [this]
    unfold ev_obv
    rw [hz]
  · next heq =>
    cases heq
    rw [Bool.and_eq_true] at hb
    rw [Nat.eq_of_beq_eq_true hb.1, of_decide_eq_true hb.2]
    exact ⟨_, rfl, fun i _ => (g1 i).symm⟩
  · next heq =>
    cases heq
    rw [Bool.and_eq_true] at hb
    rw [Nat.eq_of_beq_eq_true hb.1, of_decide_eq_true hb.2]
    exact ⟨_, rfl, fun i _ => (g2 i).symm⟩
  · next heq =>
    cases heq
    rw [Bool.and_eq_true, Bool.and_eq_true] at hb
    rw [Nat.eq_of_beq_eq_true hb.1, of_decide_eq_true hb.2.1]
    exact ⟨_, rfl, fun i hi => of_decide_eq_true (List.all_eq_true.mp hb.2.2 i (List.mem_range.mpr hi))⟩
  · next heq =>
    cases heq
    rw [Bool.and_eq_true] at hb
    rw [Nat.eq_of_beq_eq_true hb.1, of_decide_eq_true hb.2]
    refine ⟨_, rfl, fun i _ => ?_⟩
    rw [g3 i, ev_ref_nv]
  · cases hb
/-! what the changing references refer to -/
def ev_tyB (t r : Nat) : Bool := Nat.beq r 0 || (match t with
  | 100 => ev_isAb (r - 1) 1 .int
  | 102 => false
  | 103 => false
  | t => ev_isOb (r - 1) t)
theorem ev_tyB_ok {t r : Nat} (h : ev_tyB t r = true) : ev_ty ev_S0 t r := by
  unfold ev_tyB at h
  rw [Bool.or_eq_true] at h
  rcases h with h | h
  · exact Or.inl (Nat.eq_of_beq_eq_true h)
  · refine Or.inr ?_
    split at h
    · exact h
    · cases h
    · cases h
    · next g1 g2 g3 =>
      split
      · exact absurd rfl g1
      · exact absurd rfl g2
      · exact absurd rfl g3
      · exact h
def ev_tfB (ci : Nat) : Nat → List Value → Bool
  | _, [] => true
  | f, v :: l => (match ev_mt ci f with
    | some t => ev_tyB t (ev_rn v)
    | none => true) && ev_tfB ci (f + 1) l
theorem ev_tfB_ok {ci : Nat} : ∀ {l : List Value} {i : Nat}, ev_tfB ci i l = true → ∀ f v t, l[f]? = some v → ev_mt ci (i + f) = some t → ev_tyB t (ev_rn v) = true
  | [], _, _, f, v, t, h, _ => by cases h
  | w :: l, i, hb, 0, v, t, h, hm => by
    cases h
    unfold ev_tfB at hb
    rw [Bool.and_eq_true, show ev_mt ci i = some t from hm] at hb
    exact hb.1
  | w :: l, i, hb, f + 1, v, t, h, hm => by
    unfold ev_tfB at hb
    rw [Bool.and_eq_true] at hb
    exact ev_tfB_ok hb.2 f v t h (by rw [show i + 1 + f = i + (f + 1) by omega]; exact hm)
theorem ev_H00_tyB : ev_H00.all (fun e => match e with
  | .inr (ci, fs) => ev_tfB ci 0 fs
  | _ => true) = true := by decide +kernel
theorem ev_V0_fields (k ci f t : Nat) (hk : ev_isOb k ci = true) (hm : ev_mt ci f = some t) : ev_ty ev_S0 t (ev_S0.2.2.1 k f) := by
  have hlt := ev_isOb_lt hk
  obtain ⟨e, he⟩ : ∃ e, ev_H00[k]? = some e := ⟨_, List.getElem?_eq_getElem (l := ev_H00) (i := k) (by rw [ev_H00_len]; exact hlt)⟩
  have hc := ev_V0_cells k _ he
  obtain ⟨u, hs⟩ := ev_isOb_sh hk
  rw [ev_sh_of hs] at hc
  have hc : e = .inr (ci, ev_obv ci k ev_S0) := hc
  rw [hc] at he
  have hall := List.all_eq_true.mp ev_H00_tyB _ (List.mem_of_getElem? he)
  have hall : ev_tfB ci 0 (ev_obv ci k ev_S0) = true := hall
  have g3 : ev_S0.2.2.1 k f = ev_gt ev_rn .null (fun l i => ev_rn (ev_rd .null l i)) k f := rfl
  unfold ev_gt at g3
  rw [he] at g3
  rw [g3]
  dsimp only
  rw [List.getD_eq_getElem?_getD]
  cases hv : (ev_obv ci k ev_S0)[f]? with
  | none => exact Or.inl rfl
  | some v => exact ev_tyB_ok (ev_tfB_ok hall f v t hv (by rw [Nat.zero_add]; exact hm))
theorem ev_V0_rows (k i t : Nat) (hm : ev_ma k = some t) : ev_ty ev_S0 t (ev_S0.2.2.1 k i) := by
  have h15 : k = 15 ∨ k = 259 ∨ k = 260 := by
    unfold ev_ma at hm
    split at hm
    · exact Or.inl rfl
    · exact Or.inr (Or.inl rfl)
    · exact Or.inr (Or.inr rfl)
    · cases hm
  have g3 : ev_S0.2.2.1 k i = ev_gt ev_rn .null (fun l i => ev_rn (ev_rd .null l i)) k i := rfl
  refine Or.inl ?_
  rw [g3]
  unfold ev_gt
  rcases h15 with rfl | rfl | rfl
  · rw [show ev_H00[15]? = some (.inl (.object "MendBench$Text", 28, [])) from by decide +kernel]
    rfl
  · rw [show ev_H00[259]? = some (.inl (.array .int, 512, [])) from by decide +kernel]
    rfl
  · rw [show ev_H00[260]? = some (.inl (.array .byte, 1024, [])) from by decide +kernel]
    rfl
theorem ev_V0 : ev_V ev_H00 ev_S0 := by
  refine ⟨ev_H00_len, Nat.le_refl _, fun k f => ?_, ev_V0_cells, ev_V0_fields, ev_V0_rows⟩
  show ev_rng (ev_gt (fun v => (ev_int v).toInt) .null (fun l i => (ev_int (ev_rd (.int 0) l i)).toInt) k f)
  unfold ev_gt
  split
  · exact ev_rng_i _
  · exact ev_rng_i _
  · exact ev_rng_i _
/-! THE LAW out of a function of Lean -/
theorem ev_end_law {r : ev_R} {d n a b : Nat} {h : List ev_E} (e : ev_end ev_TXs ev_Mlaw d r = some (ev_eI 1, h, n, a, b)) : ∃ pc, r = (pc, [.int 1], h, n, a, b) ∧ ev_tb ev_tL_law pc = some (.ireturn, 1) := by
  obtain ⟨pc, st, hh, m, x, y⟩ := r
  have ht : ev_Mlaw.2.2.2.2.2.2.1 = some .boolean := rfl
  unfold ev_end at e
  dsimp only at e
  rw [ht] at e
  split at e
  · split at e
    · cases e
    · cases e
  · next hm =>
    split at e
    · next v ty hty =>
      split at e
      · cases e
        exact ⟨pc, rfl, hm⟩
      · cases e
    · cases e
  · split at e
    · next hty => cases hty
    · cases e
  · split at e
    · next hty => cases hty
    · cases e
  · split at e
    · split at e
      · cases e
      · cases e
    · cases e
  · cases e
/-- WHAT IS OWED, as a question of Lean's functions alone: the law's loop, from the numbers at its head, comes to 1 within the claim's cells and slots -/
theorem whole_of_fun {p : Program} {e : Env} {s : State} {m : MethodId} {below : List Frame} {meth : Method} {c : Code} (l : Launch) (hflags : l.flags = flags0) {b L : Nat} {xs : Nat → Int32} (hL : L ≤ 3072) (C0 : lw_At p s m meth c b L xs) {Q : Nat} {S' : ev_St} (hJ : jl_law_23 Q L xs Q 0 ev_S0 = some (1, S')) (hc : ev_sC S' ≤ 94866) (hz : ev_sZ S' ≤ 8811508) : W p l e room_1 s m #[Value.ref b] below meth c s.heap [] 0 0 (lw_Z below #[Value.ref b] s) (entryFrame m ([Value.ref b] : List Value).toArray 7) := by
  obtain ⟨-, c1, c2, B, h', -, hB⟩ := jlt_law_23 Q L xs hL Q 0 ev_rng0 ev_S0 (ev_lvL 0 (.ref 0) ev_rM ev_rO) rfl rfl rfl rfl rfl 1 S' hJ ev_H00 ev_V0
  obtain ⟨r, r1, r2⟩ := hB (B + 100000) (B + 100000) (by omega) (by omega) 724 3553586
  obtain ⟨pc, rfl, hpc⟩ := ev_end_law r2
  have hsub : ev_csub (ev_cF 100000 12) (ev_cF (B + 100000) 12) := ev_cF_mono (by omega) 12
  have p1 : ev_stepn (ev_sF (some (L, xs)) (ev_cF (B + 100000) 12) ev_Mlaw) (2 + (1 + 10)) (0, [(0, .retAddr 0)], [], [], 0, 0, 0) = some ev_sL4 := ev_stepn_X (fun _ _ _ _ _ _ h => ev_sF_mono hsub h) (ev_law3 (some (L, xs)))
  have p2 := ev_stepn_run p1 (B + 100000)
  have p3 : ev_from (ev_sF (some (L, xs)) (ev_cF (B + 100000) 12) ev_Mlaw) (B + 100000) ev_sL4 = some (pc, [.int 1], h', ev_sN S', 724 + (ev_sC S' - ev_sC ev_S0), 3553586 + (ev_sZ S' - ev_sZ ev_S0)) := r1
  rw [p3] at p2
  refine ev_start l hflags C0 p2 hpc ?_ ?_
  · have : ev_sC ev_S0 = 724 := rfl
    omega
  · have : ev_sZ ev_S0 = 3553586 := rfl
    omega
