/-! RULES upon the cells, and calls -/
section EVK
variable {β γ : Type} {X : ev_X} {M : ev_M} {d pc pc' : Nat} {lv lv' : List (Nat × Value)} {st st' as rest : List Value} {S : ev_St} {enc : β → Option Value ⊕ String} {P : β → Prop} {y ci f fin z k : Nat}
theorem ev_m_get {h : List ev_E} {q : Nat × Nat} (hV : ev_V h S) (hy : (ev_PEs M.2.2.1).1 y = some (ci, f, fin)) (hk : ev_isOb k ci = true) (hf : (ev_fks ci)[f]? = some q) : ev_mem ev_CN ev_ft ev_nf (ev_PEs M.2.2.1) M.2.2.2.1 (.getfield y) 3 pc (.ref k :: st) h (ev_sN S) = some (pc + 3, ev_fv S k f q :: st, h, ev_sN S, 0, 0) := by
  show ev_fld ev_ft M.2.2.2.1 pc (.ref k :: st) h (ev_sN S) false ((ev_PEs M.2.2.1).1 y) = _
  rw [hy]
  show ev_get pc st h (ev_sN S) ci f h[k]? = _
  rw [ev_V_obj hV hk]
  unfold ev_get
  dsimp only
  rw [Nat.beq_refl]
  dsimp only
  rw [ev_obv_get hf]
theorem ev_r_getI {J : Int → Option (β × ev_St)} (hi : M.1 pc = some (.getfield y, 3)) (hy : (ev_PEs M.2.2.1).1 y = some (ci, f, fin)) (hk : ev_isOb k ci = true) (hf : (ev_fks ci)[f]? = some (0, z)) (hw : ∀ x, ev_rng x → ev_w X M d (pc + 3) lv (.int (Int32.ofInt x) :: st) S (J x) enc P) : ev_w X M d pc lv (.ref k :: st) S (ev_b (S.1 k f) J) enc P :=
  ev_w_V (fun h0 hV0 => ev_r_mm (S1 := S) rfl rfl rfl hi rfl (fun h hV => ⟨h, ev_m_get hV hy hk hf, hV⟩) (hw _ (hV0.2.2.1 k f)))
theorem ev_r_getL {J : Int64 → Option (β × ev_St)} (hi : M.1 pc = some (.getfield y, 3)) (hy : (ev_PEs M.2.2.1).1 y = some (ci, f, fin)) (hk : ev_isOb k ci = true) (hf : (ev_fks ci)[f]? = some (1, z)) (hw : ∀ x, ev_w X M d (pc + 3) lv (.long x :: st) S (J x) enc P) : ev_w X M d pc lv (.ref k :: st) S (ev_b (S.2.1 k f) J) enc P :=
  ev_r_mm (S1 := S) rfl rfl rfl hi rfl (fun h hV => ⟨h, ev_m_get hV hy hk hf, hV⟩) (hw _)
theorem ev_r_getC {J : Option (β × ev_St)} {k' : Nat} (hi : M.1 pc = some (.getfield y, 3)) (hy : (ev_PEs M.2.2.1).1 y = some (ci, f, fin)) (hk : ev_isOb k ci = true) (hf : (ev_fks ci)[f]? = some (2, z)) (hz : k + z = k') (hw : ev_w X M d (pc + 3) lv (.ref k' :: st) S J enc P) : ev_w X M d pc lv (.ref k :: st) S J enc P :=
  ev_r_mm (S1 := S) rfl rfl rfl hi rfl (fun h hV => ⟨h, by rw [ev_m_get hV hy hk hf]; subst hz; rfl, hV⟩) hw
theorem ev_r_getR {J : Nat → Option (β × ev_St)} {t : Nat} (hi : M.1 pc = some (.getfield y, 3)) (hy : (ev_PEs M.2.2.1).1 y = some (ci, f, fin)) (hk : ev_isOb k ci = true) (hf : (ev_fks ci)[f]? = some (3, z)) (hm : ev_mt ci f = some t) (hw : ∀ r, ev_ty S t r → ev_w X M d (pc + 3) lv (ev_nv r :: st) S (J r) enc P) : ev_w X M d pc lv (.ref k :: st) S (ev_b (S.2.2.1 k f) J) enc P :=
  ev_w_V (fun h0 hV0 => ev_r_mm (S1 := S) rfl rfl rfl hi rfl (fun h hV => ⟨h, ev_m_get hV hy hk hf, hV⟩) (hw _ (hV0.2.2.2.2.1 k ci f t hk hm)))
theorem ev_m_put {h : List ev_E} {v : Value} {q : Nat × Nat} (hV : ev_V h S) (hy : (ev_PEs M.2.2.1).1 y = some (ci, f, 0)) (hk : ev_isOb k ci = true) (hf : (ev_fks ci)[f]? = some q) (hfit : ev_fit (ev_ft ci f) v = true) : ev_mem ev_CN ev_ft ev_nf (ev_PEs M.2.2.1) M.2.2.2.1 (.putfield y) 3 pc (v :: .ref k :: st) h (ev_sN S) = some (pc + 3, st, h.set k (.inr (ci, (ev_obv ci k S).set f v)), ev_sN S, 0, 0) := by
  show ev_fld ev_ft M.2.2.2.1 pc (v :: .ref k :: st) h (ev_sN S) true ((ev_PEs M.2.2.1).1 y) = _
  rw [hy]
  show ev_put ev_ft pc st h (ev_sN S) ci f k v h[k]? = _
  rw [ev_V_obj hV hk]
  unfold ev_put
  dsimp only
  have hb : Nat.blt f (ev_obv ci k S).length = true := by
    rw [ev_obv_len]
    have := (List.getElem?_eq_some_iff.mp hf).1
    simpa [Nat.blt_eq] using this
  rw [Nat.beq_refl, hfit, hb]
  rfl
theorem ev_r_putI {J : ev_St → Option (β × ev_St)} {x : Int} (hx : ev_rng x) (hi : M.1 pc = some (.putfield y, 3)) (hy : (ev_PEs M.2.2.1).1 y = some (ci, f, 0)) (hk : ev_isOb k ci = true) (hf : (ev_fks ci)[f]? = some (0, z)) (hfit : ev_fit (ev_ft ci f) (.int (Int32.ofInt x)) = true) (hw : ∀ S1, ev_w X M d (pc + 3) lv st S1 (J S1) enc P) : ev_w X M d pc lv (.int (Int32.ofInt x) :: .ref k :: st) S (ev_b (ev_pI S k f x) J) enc P :=
  ev_r_mm (S1 := ev_pI S k f x) rfl rfl rfl hi rfl (fun h hV => ⟨_, ev_m_put hV hy hk hf hfit, ev_V_putI hV hk hf hx⟩) (hw _)
theorem ev_r_putL {J : ev_St → Option (β × ev_St)} {x : Int64} (hi : M.1 pc = some (.putfield y, 3)) (hy : (ev_PEs M.2.2.1).1 y = some (ci, f, 0)) (hk : ev_isOb k ci = true) (hf : (ev_fks ci)[f]? = some (1, z)) (hfit : ev_fit (ev_ft ci f) (.long x) = true) (hw : ∀ S1, ev_w X M d (pc + 3) lv st S1 (J S1) enc P) : ev_w X M d pc lv (.long x :: .ref k :: st) S (ev_b (ev_pL S k f x) J) enc P :=
  ev_r_mm (S1 := ev_pL S k f x) rfl rfl rfl hi rfl (fun h hV => ⟨_, ev_m_put hV hy hk hf hfit, ev_V_putL hV hk hf⟩) (hw _)
theorem ev_r_putR {J : ev_St → Option (β × ev_St)} {r t : Nat} (hr : ev_ty S t r) (hi : M.1 pc = some (.putfield y, 3)) (hy : (ev_PEs M.2.2.1).1 y = some (ci, f, 0)) (hk : ev_isOb k ci = true) (hf : (ev_fks ci)[f]? = some (3, z)) (hm : ev_mt ci f = some t) (hfit : ev_fit (ev_ft ci f) (ev_nv r) = true) (hw : ∀ S1, ev_w X M d (pc + 3) lv st S1 (J S1) enc P) : ev_w X M d pc lv (ev_nv r :: .ref k :: st) S (ev_b (ev_pR S k f r) J) enc P :=
  ev_r_mm (S1 := ev_pR S k f r) rfl rfl rfl hi rfl (fun h hV => ⟨_, ev_m_put hV hy hk hf hfit, ev_V_putR hV hk hf hm hr⟩) (hw _)
/-- what may be null, as what it refers to -/
theorem ev_nv_ref {r : Nat} (hr : r ≠ 0) : ev_nv r = .ref (r - 1) := by
  cases r with
  | zero => exact absurd rfl hr
  | succ k => rfl
theorem ev_r_dr {J : Option (β × ev_St)} {r : Nat} (g : Value → List Value) (hr : r ≠ 0) (hw : ev_w X M d pc lv (g (.ref (r - 1))) S J enc P) : ev_w X M d pc lv (g (ev_nv r)) S J enc P := by
  rw [ev_nv_ref hr]
  exact hw
/-! arrays -/
theorem ev_in_oi {i : Int} {N : Nat} (hr : ev_rng i) (h : 0 ≤ i ∧ i < (N : Int)) : ev_in (Int32.ofInt i) N = true ∧ (Int32.ofInt i).toNatClampNeg = i.toNat := by
  have e := ev_oi hr
  have e2 : (Int32.ofInt i).toNatClampNeg = i.toNat := by rw [← Int32.toNat_toInt, e]
  refine ⟨?_, e2⟩
  unfold ev_in
  have h0 : ¬ Int32.ofInt i < 0 := by
    rw [Int32.lt_iff_toInt_lt, e]
    show ¬ i < 0
    omega
  rw [decide_eq_false h0, e2]
  have : i.toNat < N := by omega
  simp [Nat.blt_eq, this]
theorem ev_m_iald {h : List ev_E} {i : Int} (hV : ev_V h S) (hk : ev_isAb k 1 .int = true) (hr : ev_rng i) (hb : 0 ≤ i ∧ i < (ev_aln k : Int)) : ev_mem ev_CN ev_ft ev_nf (ev_PEs M.2.2.1) M.2.2.2.1 .iaload 1 pc (.int (Int32.ofInt i) :: .ref k :: st) h (ev_sN S) = some (pc + 1, .int (Int32.ofInt (S.1 k i.toNat)) :: st, h, ev_sN S, 0, 0) := by
  obtain ⟨l, h1, h2⟩ := ev_V_arrI hV hk
  obtain ⟨b1, b2⟩ := ev_in_oi hr hb
  show ev_ald false false [.int] pc st h (ev_sN S) (Int32.ofInt i) h[k]? = _
  rw [h1]
  unfold ev_ald
  dsimp only
  rw [b1, b2]
  show some (pc + 1, Value.int (ev_int (ev_rd (.int 0) l i.toNat)) :: st, h, ev_sN S, 0, 0) = _
  rw [← h2 i.toNat (by omega), ev_io]
theorem ev_m_bald {h : List ev_E} {i : Int} {ty : FieldType} (hty : ty = .byte ∨ ty = .boolean) (hV : ev_V h S) (hk : ev_isAb k 1 ty = true) (hr : ev_rng i) (hb : 0 ≤ i ∧ i < (ev_aln k : Int)) : ev_mem ev_CN ev_ft ev_nf (ev_PEs M.2.2.1) M.2.2.2.1 .baload 1 pc (.int (Int32.ofInt i) :: .ref k :: st) h (ev_sN S) = some (pc + 1, .int (Int32.ofInt (S.1 k i.toNat)) :: st, h, ev_sN S, 0, 0) := by
  obtain ⟨l, h1, h2⟩ := ev_V_arrI hV hk
  obtain ⟨b1, b2⟩ := ev_in_oi hr hb
  show ev_ald false false [.byte, .boolean] pc st h (ev_sN S) (Int32.ofInt i) h[k]? = _
  rw [h1]
  unfold ev_ald
  dsimp only
  have hm : decide (ty ∈ [FieldType.byte, FieldType.boolean]) = true := by rcases hty with rfl | rfl <;> rfl
  rw [b1, b2, hm]
  show some (pc + 1, Value.int (ev_int (ev_rd (.int 0) l i.toNat)) :: st, h, ev_sN S, 0, 0) = _
  rw [← h2 i.toNat (by omega), ev_io]
theorem ev_m_lald {h : List ev_E} {i : Int} (hV : ev_V h S) (hk : ev_isAb k 2 .long = true) (hr : ev_rng i) (hb : 0 ≤ i ∧ i < (ev_aln k : Int)) : ev_mem ev_CN ev_ft ev_nf (ev_PEs M.2.2.1) M.2.2.2.1 .laload 1 pc (.int (Int32.ofInt i) :: .ref k :: st) h (ev_sN S) = some (pc + 1, .long (S.2.1 k i.toNat) :: st, h, ev_sN S, 0, 0) := by
  obtain ⟨l, h1, h2⟩ := ev_V_arrL hV hk
  obtain ⟨b1, b2⟩ := ev_in_oi hr hb
  show ev_ald true false [.long] pc st h (ev_sN S) (Int32.ofInt i) h[k]? = _
  rw [h1]
  unfold ev_ald
  dsimp only
  rw [b1, b2]
  show some (pc + 1, Value.long (ev_long (ev_rd (.long 0) l i.toNat)) :: st, h, ev_sN S, 0, 0) = _
  rw [h2 i.toNat (by omega)]
theorem ev_r_iald {J : Int → Option (β × ev_St)} {i : Int} (hr : ev_rng i) (hi : M.1 pc = some (.iaload, 1)) (hk : ev_isAb k 1 .int = true) (hw : ∀ x, ev_rng x → ev_w X M d (pc + 1) lv (.int (Int32.ofInt x) :: st) S (J x) enc P) : ev_w X M d pc lv (.int (Int32.ofInt i) :: .ref k :: st) S (ev_if (0 ≤ i ∧ i < (ev_aln k : Int)) (ev_b (S.1 k i.toNat) J)) enc P :=
  ev_r_chk (fun hb => ev_w_V (fun h0 hV0 => ev_r_mm (S1 := S) rfl rfl rfl hi rfl (fun h hV => ⟨h, ev_m_iald hV hk hr hb, hV⟩) (hw _ (hV0.2.2.1 k _))))
theorem ev_r_bald {J : Int → Option (β × ev_St)} {i : Int} {ty : FieldType} (hty : ty = .byte ∨ ty = .boolean) (hr : ev_rng i) (hi : M.1 pc = some (.baload, 1)) (hk : ev_isAb k 1 ty = true) (hw : ∀ x, ev_rng x → ev_w X M d (pc + 1) lv (.int (Int32.ofInt x) :: st) S (J x) enc P) : ev_w X M d pc lv (.int (Int32.ofInt i) :: .ref k :: st) S (ev_if (0 ≤ i ∧ i < (ev_aln k : Int)) (ev_b (S.1 k i.toNat) J)) enc P :=
  ev_r_chk (fun hb => ev_w_V (fun h0 hV0 => ev_r_mm (S1 := S) rfl rfl rfl hi rfl (fun h hV => ⟨h, ev_m_bald hty hV hk hr hb, hV⟩) (hw _ (hV0.2.2.1 k _))))
theorem ev_r_lald {J : Int64 → Option (β × ev_St)} {i : Int} (hr : ev_rng i) (hi : M.1 pc = some (.laload, 1)) (hk : ev_isAb k 2 .long = true) (hw : ∀ x, ev_w X M d (pc + 1) lv (.long x :: st) S (J x) enc P) : ev_w X M d pc lv (.int (Int32.ofInt i) :: .ref k :: st) S (ev_if (0 ≤ i ∧ i < (ev_aln k : Int)) (ev_b (S.2.1 k i.toNat) J)) enc P :=
  ev_r_chk (fun hb => ev_r_mm (S1 := S) rfl rfl rfl hi rfl (fun h hV => ⟨h, ev_m_lald hV hk hr hb, hV⟩) (hw _))
theorem ev_m_ast {h : List ev_E} {i : Int} {v : Value} {ty : FieldType} {N : Nat} {l : List (Nat × Value)} {ts : List FieldType} (h1 : h[k]? = some (.inl (ty, N, l))) (hm : decide (ty ∈ ts) = true) (hr : ev_rng i) (hb : 0 ≤ i ∧ i < (N : Int)) : ev_ast ts pc st h (ev_sN S) k (Int32.ofInt i) v h[k]? = some (pc + 1, st, h.set k (.inl (ty, N, (i.toNat, narrow ty v) :: l)), ev_sN S, 0, 0) := by
  obtain ⟨b1, b2⟩ := ev_in_oi hr hb
  rw [h1]
  unfold ev_ast
  dsimp only
  rw [b1, b2, hm]
  rfl
theorem ev_r_iast {J : ev_St → Option (β × ev_St)} {i x : Int} (hx : ev_rng x) (hr : ev_rng i) (hi : M.1 pc = some (.iastore, 1)) (hk : ev_isAb k 1 .int = true) (hw : ∀ S1, ev_w X M d (pc + 1) lv st S1 (J S1) enc P) : ev_w X M d pc lv (.int (Int32.ofInt x) :: .int (Int32.ofInt i) :: .ref k :: st) S (ev_if (0 ≤ i ∧ i < (ev_aln k : Int)) (ev_b (ev_pI S k i.toNat x) J)) enc P :=
  ev_r_chk (fun hb => ev_r_mm (S1 := ev_pI S k i.toNat x) rfl rfl rfl hi rfl (fun h hV => by
    obtain ⟨l, h1, h2⟩ := ev_V_arrI hV hk
    exact ⟨_, ev_m_ast (ts := [.int]) (v := .int (Int32.ofInt x)) h1 rfl hr hb, ev_V_astI hV hk h2 hx⟩) (hw _))
theorem ev_r_bast {J : ev_St → Option (β × ev_St)} {i x : Int} {ty : FieldType} (hty : ty = .byte ∨ ty = .boolean) (hn : narrow ty (.int (Int32.ofInt x)) = .int (Int32.ofInt x)) (hx : ev_rng x) (hr : ev_rng i) (hi : M.1 pc = some (.bastore, 1)) (hk : ev_isAb k 1 ty = true) (hw : ∀ S1, ev_w X M d (pc + 1) lv st S1 (J S1) enc P) : ev_w X M d pc lv (.int (Int32.ofInt x) :: .int (Int32.ofInt i) :: .ref k :: st) S (ev_if (0 ≤ i ∧ i < (ev_aln k : Int)) (ev_b (ev_pI S k i.toNat x) J)) enc P :=
  ev_r_chk (fun hb => ev_r_mm (S1 := ev_pI S k i.toNat x) rfl rfl rfl hi rfl (fun h hV => by
    obtain ⟨l, h1, h2⟩ := ev_V_arrI hV hk
    refine ⟨_, ev_m_ast (ts := [.byte, .boolean]) (v := .int (Int32.ofInt x)) h1 (by rcases hty with rfl | rfl <;> rfl) hr hb, ?_⟩
    rw [hn]
    exact ev_V_astI hV hk h2 hx) (hw _))
theorem ev_r_last {J : ev_St → Option (β × ev_St)} {i : Int} {x : Int64} (hr : ev_rng i) (hi : M.1 pc = some (.lastore, 1)) (hk : ev_isAb k 2 .long = true) (hw : ∀ S1, ev_w X M d (pc + 1) lv st S1 (J S1) enc P) : ev_w X M d pc lv (.long x :: .int (Int32.ofInt i) :: .ref k :: st) S (ev_if (0 ≤ i ∧ i < (ev_aln k : Int)) (ev_b (ev_pL S k i.toNat x) J)) enc P :=
  ev_r_chk (fun hb => ev_r_mm (S1 := ev_pL S k i.toNat x) rfl rfl rfl hi rfl (fun h hV => by
    obtain ⟨l, h1, h2⟩ := ev_V_arrL hV hk
    exact ⟨_, ev_m_ast (ts := [.long]) (v := .long x) h1 rfl hr hb, ev_V_astL hV hk h2⟩) (hw _))
theorem ev_len_le (k : Nat) : ev_aln k ≤ 840000 := by
  have h : ∀ s ∈ ev_shs, s.2.1 ≤ 840000 := by
    have e : ev_shs.all (fun s => Nat.ble s.2.1 840000) = true := by decide +kernel
    exact fun s hs => Nat.le_of_ble_eq_true (List.all_eq_true.mp e s hs)
  unfold ev_aln
  split
  · next q N z e => exact h _ (List.mem_of_getElem? e)
  · decide
theorem ev_r_alen {J : Int → Option (β × ev_St)} {kd : Nat} {ty : FieldType} (hkd : kd = 1 ∨ kd = 2) (hi : M.1 pc = some (.arraylength, 1)) (hk : ev_isAb k kd ty = true) (hw : ∀ x, ev_rng x → ev_w X M d (pc + 1) lv (.int (Int32.ofInt x) :: st) S (J x) enc P) : ev_w X M d pc lv (.ref k :: st) S (ev_b (ev_aln k : Int) J) enc P :=
  ev_r_mm (S1 := S) rfl rfl rfl hi rfl (fun h hV => ⟨h, by
    show ev_len pc st h (ev_sN S) h[k]? = _
    have e : ∃ l, h[k]? = some (.inl (ty, ev_aln k, l)) := by
      rcases hkd with rfl | rfl
      · obtain ⟨l, h1, -⟩ := ev_V_arrI hV hk
        exact ⟨l, h1⟩
      · obtain ⟨l, h1, -⟩ := ev_V_arrL hV hk
        exact ⟨l, h1⟩
    obtain ⟨l, e⟩ := e
    rw [e, Int32.ofInt_eq_ofNat]
    rfl, hV⟩) (hw _ ⟨by omega, by have := ev_len_le k; omega⟩)
/-- an array of objects that stays as it is -/
theorem ev_r_aald {J : Nat → Option (β × ev_St)} {i : Int} {C : String} {N b c : Nat} (hr : ev_rng i) (hi : M.1 pc = some (.aaload, 1)) (hk : ev_shs[k]? = some (3, N, .object C, b, c)) (hw : 0 ≤ i ∧ i < (N : Int) → ev_w X M d (pc + 1) lv (.ref (b + c * i.toNat) :: st) S (J (b + c * i.toNat)) enc P) : ev_w X M d pc lv (.int (Int32.ofInt i) :: .ref k :: st) S (ev_if (0 ≤ i ∧ i < (N : Int)) (ev_b (b + c * i.toNat) J)) enc P :=
  ev_r_chk (fun hb => ev_r_mm (S1 := S) rfl rfl rfl hi rfl (fun h hV => ⟨h, by
    obtain ⟨e, h1, l, rfl, h3⟩ := ev_V_cell hV hk
    obtain ⟨b1, b2⟩ := ev_in_oi hr hb
    show (match h[k]? with
      | some (.inl (.object C, N, l)) => ev_ald false true [.object C] pc st h (ev_sN S) (Int32.ofInt i) (some (.inl (.object C, N, l)))
      | some (.inl (.array t, N, l)) => ev_ald false true [.array t] pc st h (ev_sN S) (Int32.ofInt i) (some (.inl (.array t, N, l)))
      | _ => none) = _
    rw [h1]
    unfold ev_ald
    dsimp only
    rw [b1, b2, decide_eq_true (List.mem_singleton.mpr rfl)]
    show some (pc + 1, ev_ref (ev_rd .null l i.toNat) :: st, h, ev_sN S, 0, 0) = _
    rw [h3 i.toNat (by omega)], hV⟩) (hw hb))
theorem ev_r_aalda {J : Nat → Option (β × ev_St)} {i : Int} {C : FieldType} {N b c : Nat} (hr : ev_rng i) (hi : M.1 pc = some (.aaload, 1)) (hk : ev_shs[k]? = some (3, N, .array C, b, c)) (hw : 0 ≤ i ∧ i < (N : Int) → ev_w X M d (pc + 1) lv (.ref (b + c * i.toNat) :: st) S (J (b + c * i.toNat)) enc P) : ev_w X M d pc lv (.int (Int32.ofInt i) :: .ref k :: st) S (ev_if (0 ≤ i ∧ i < (N : Int)) (ev_b (b + c * i.toNat) J)) enc P :=
  ev_r_chk (fun hb => ev_r_mm (S1 := S) rfl rfl rfl hi rfl (fun h hV => ⟨h, by
    obtain ⟨e, h1, l, rfl, h3⟩ := ev_V_cell hV hk
    obtain ⟨b1, b2⟩ := ev_in_oi hr hb
    show (match h[k]? with
      | some (.inl (.object C, N, l)) => ev_ald false true [.object C] pc st h (ev_sN S) (Int32.ofInt i) (some (.inl (.object C, N, l)))
      | some (.inl (.array t, N, l)) => ev_ald false true [.array t] pc st h (ev_sN S) (Int32.ofInt i) (some (.inl (.array t, N, l)))
      | _ => none) = _
    rw [h1]
    unfold ev_ald
    dsimp only
    rw [b1, b2, decide_eq_true (List.mem_singleton.mpr rfl)]
    show some (pc + 1, ev_ref (ev_rd .null l i.toNat) :: st, h, ev_sN S, 0, 0) = _
    rw [h3 i.toNat (by omega)], hV⟩) (hw hb))
/-! more operations -/
def ev_i2l (x : Int) : Int64 := (Int32.ofInt x).toInt64
def ev_l2i (x : Int64) : Int := x.toInt32.toInt
def ev_i2b (x : Int) : Int := (Int32.ofInt x).toInt8.toInt32.toInt
def ev_i2c (x : Int) : Int := ((Int32.ofInt x).toUInt32 % 65536).toInt32.toInt
def ev_lshl (x : Int64) (e : Int) : Int64 := x <<< ((Int32.ofInt e).toInt64 &&& 63)
def ev_lushr (x : Int64) (e : Int) : Int64 := (x.toUInt64 >>> ((Int32.ofInt e).toInt64.toUInt64 &&& Int64.toUInt64 63)).toInt64
def ev_lcmp (x y : Int64) : Int := (lg_cmp x y).toInt
def ev_imin (x y : Int) : Int := (ev_mm true (Int32.ofInt x) (Int32.ofInt y)).toInt
def ev_imax (x y : Int) : Int := (ev_mm false (Int32.ofInt x) (Int32.ofInt y)).toInt
/-- a step without cells whose answer is an int -/
theorem ev_r_toI {J : Int → Option (β × ev_St)} {v : Int32} {i : Instr} {len : Nat} (hi : M.1 pc = some (i, len)) (hp : ev_pure M.2.1 i len pc lv st = some (pc', lv', .int v :: st')) (hw : ∀ z, ev_rng z → ev_w X M d pc' lv' (.int (Int32.ofInt z) :: st') S (J z) enc P) : ev_w X M d pc lv st S (ev_b v.toInt J) enc P :=
  ev_r_pure hi hp (by
    have := hw v.toInt (ev_rng_i v)
    rw [ev_io] at this
    exact this)
theorem ev_r_toL {J : Int64 → Option (β × ev_St)} {v : Int64} {i : Instr} {len : Nat} (hi : M.1 pc = some (i, len)) (hp : ev_pure M.2.1 i len pc lv st = some (pc', lv', .long v :: st')) (hw : ∀ z, ev_w X M d pc' lv' (.long z :: st') S (J z) enc P) : ev_w X M d pc lv st S (ev_b v J) enc P :=
  ev_r_pure hi hp (hw v)
theorem ev_r_dup {J : Option (β × ev_St)} {v : Value} (hv : v.category = 1) (hi : M.1 pc = some (.dup, 1)) (hw : ev_w X M d (pc + 1) lv (v :: v :: st) S J enc P) : ev_w X M d pc lv (v :: st) S J enc P := ev_r_pure hi (by
  show (match Nat.beq v.category 1 with
    | true => some (pc + 1, lv, v :: v :: st)
    | false => none) = _
  rw [hv]) hw
theorem ev_r_dup2 {J : Option (β × ev_St)} {v w : Value} (hv : v.category = 1) (hw0 : w.category = 1) (hi : M.1 pc = some (.dup2, 1)) (hw : ev_w X M d (pc + 1) lv (v :: w :: v :: w :: st) S J enc P) : ev_w X M d pc lv (v :: w :: st) S J enc P := ev_r_pure hi (by
  show (match Nat.beq v.category 1 with
    | true => (match Nat.beq w.category 1 with
      | true => some (pc + 1, lv, v :: w :: v :: w :: st)
      | false => none)
    | false => none) = _
  rw [hv, hw0]) hw
theorem ev_nv_cat : ∀ r : Nat, (ev_nv r).category = 1
  | 0 => rfl
  | _ + 1 => rfl
theorem ev_r_pop {J : Option (β × ev_St)} {v : Value} (hv : v.category = 1) (hi : M.1 pc = some (.pop, 1)) (hw : ev_w X M d (pc + 1) lv st S J enc P) : ev_w X M d pc lv (v :: st) S J enc P := ev_r_pure hi (by
  show (match Nat.beq v.category 1 with
    | true => some (pc + 1, lv, st)
    | false => none) = _
  rw [hv]) hw
/-! calls -/
def ev_bd {γ δ : Type} (Jc : Option (γ × ev_St)) (K : γ → ev_St → Option δ) : Option δ := match Jc with
  | some (x, S1) => K x S1
  | none => none
/-- a call, out of what it refers to and the invoke's linking -/
theorem ev_r_inv {J : Option (β × ev_St)} {mi : Nat} {v : Option Value} {S1 : ev_St} {Q : Prop} (hc : ev_Ref d mi as S (.inl v) S1 Q) (hs : ∀ h call h' n' dc ds, ev_V h S → call mi as h (ev_sN S) = some (.inl v, h', n', dc, ds) → ev_sF X call M pc lv st h (ev_sN S) = some (pc + 3, lv, v.toList ++ rest, h', n', dc, ds)) (hw : Q → ev_w X M d (pc + 3) lv (v.toList ++ rest) S1 J enc P) : ev_w X M d pc lv st S J enc P := by
  intro x S' hJ h hV
  obtain ⟨q, c1, c2, B1, h1, hV1, e1⟩ := hc h hV
  obtain ⟨w0, w1, w2, B2, h2, hV2, e2⟩ := hw q x S' hJ h1 hV1
  refine ⟨w0, Nat.le_trans c1 w1, Nat.le_trans c2 w2, B1 + B2 + 1, h2, hV2, fun F f hF hf a b => ?_⟩
  obtain ⟨g, rfl⟩ : ∃ g, f = g + 1 := ⟨f - 1, by omega⟩
  have s1 := hs h (ev_cF F d) h1 _ _ _ hV (e1 F (by omega))
  obtain ⟨r, r1, r2⟩ := e2 F g (by omega) (by omega) (a + (ev_sC S1 - ev_sC S)) (b + (ev_sZ S1 - ev_sZ S))
  refine ⟨r, ?_, ?_⟩
  · unfold ev_run
    rw [s1]
    exact r1
  · rw [r2, show a + (ev_sC S1 - ev_sC S) + (ev_sC S' - ev_sC S1) = a + (ev_sC S' - ev_sC S) by omega, show b + (ev_sZ S1 - ev_sZ S) + (ev_sZ S' - ev_sZ S1) = b + (ev_sZ S' - ev_sZ S) by omega]
theorem ev_s_virt {h h' : List ev_E} {call : Nat → List Value → List ev_E → Nat → Option ev_Z} {mi na n n' dc ds : Nat} {v : Option Value} (hi : M.1 pc = some (.invokevirtual y, 3)) (hk : ev_Lk M.2.2.1 y = some (0, mi, na)) (hP : (ev_P mi).isSome = true) (hna : Nat.beq na (ev_Mof mi).2.2.2.2.2.1 = true) (hpop : ev_pop (na + 1) [] st = some (as, rest)) (hs : Nat.ble (ev_sum rest) 8 = true) (hr : ev_recv h (ev_Mof mi).2.2.1 as = true) (hc : call mi as h n = some (.inl v, h', n', dc, ds)) : ev_sF X call M pc lv st h n = some (pc + 3, lv, v.toList ++ rest, h', n', dc, ds) := by
  refine ev_one_virtual hi ?_
  rw [hk, ev_inv_obj (Y := ev_Mof mi) rfl rfl rfl (ev_P_of hP) (by rw [hna]; rfl) rfl hpop (by rw [hs, hr]; rfl)]
  show ev_back M pc lv rest (ev_ansOf true (call mi as h n)) = _
  rw [hc]
  cases v <;> rfl
theorem ev_s_stat {h h' : List ev_E} {call : Nat → List Value → List ev_E → Nat → Option ev_Z} {kind mi na n n' dc ds : Nat} {v : Option Value} (hkd : kind = 2 ∨ kind = 5 ∨ kind = 8) (hi : M.1 pc = some (.invokestatic y, 3)) (hk : ev_Lk M.2.2.1 y = some (kind, mi, na)) (hP : (ev_P mi).isSome = true) (hna : Nat.beq na (ev_Mof mi).2.2.2.2.2.1 = true) (hpop : ev_pop na [] st = some (as, rest)) (hs : Nat.ble (ev_sum rest) 8 = true) (hc : call mi as h n = some (.inl v, h', n', dc, ds)) : ev_sF X call M pc lv st h n = some (pc + 3, lv, v.toList ++ rest, h', n', dc, ds) := by
  refine ev_one_static hi ?_
  rcases hkd with rfl | rfl | rfl
  · rw [hk, ev_inv_st (Y := ev_Mof mi) rfl rfl rfl (ev_P_of hP) (by rw [hna]; rfl) hpop hs]
    show ev_back M pc lv rest (ev_ansOf false (call mi as h n)) = _
    rw [hc]
    cases v <;> rfl
  · rw [hk, ev_inv_st (Y := ev_Mof mi) rfl rfl rfl (ev_P_of hP) (by rw [hna]; rfl) hpop hs]
    show ev_back M pc lv rest (ev_ansOf false (call mi as h n)) = _
    rw [hc]
    cases v <;> rfl
  · rw [hk, ev_inv_st (Y := ev_Mof mi) rfl rfl rfl (ev_P_of hP) (by rw [hna]; rfl) hpop hs]
    show ev_back M pc lv rest (ev_ansOf false (call mi as h n)) = _
    rw [hc]
    cases v <;> rfl
theorem ev_r_virt {γ : Type} {Jc : Option (γ × ev_St)} {K : γ → ev_St → Option (β × ev_St)} {mi na k : Nat} {encc : γ → Option Value} {Q : γ → Prop} (hc : ∀ x S1, Jc = some (x, S1) → ev_Ref d mi (.ref k :: as) S (.inl (encc x)) S1 (Q x)) (hk : ev_isOb k (ev_Mof mi).2.2.1 = true) (hi : M.1 pc = some (.invokevirtual y, 3)) (hl : ev_Lk M.2.2.1 y = some (0, mi, na)) (hP : (ev_P mi).isSome = true) (hna : Nat.beq na (ev_Mof mi).2.2.2.2.2.1 = true) (hpop : ev_pop (na + 1) [] st = some (.ref k :: as, rest)) (hs : Nat.ble (ev_sum rest) 8 = true) (hw : ∀ x S1, Q x → ev_w X M d (pc + 3) lv ((encc x).toList ++ rest) S1 (K x S1) enc P) : ev_w X M d pc lv st S (ev_bd Jc K) enc P := by
  cases hJ : Jc with
  | none => exact ev_w_none
  | some q => exact ev_r_inv (hc q.1 q.2 hJ) (fun h call h' n' dc ds hV e => ev_s_virt hi hl hP hna hpop hs (ev_recv_of (ev_V_obj hV hk)) e) (hw q.1 q.2)
theorem ev_r_stat {γ : Type} {Jc : Option (γ × ev_St)} {K : γ → ev_St → Option (β × ev_St)} {kind mi na : Nat} {encc : γ → Option Value} {Q : γ → Prop} (hc : ∀ x S1, Jc = some (x, S1) → ev_Ref d mi as S (.inl (encc x)) S1 (Q x)) (hkd : kind = 2 ∨ kind = 5 ∨ kind = 8) (hi : M.1 pc = some (.invokestatic y, 3)) (hl : ev_Lk M.2.2.1 y = some (kind, mi, na)) (hP : (ev_P mi).isSome = true) (hna : Nat.beq na (ev_Mof mi).2.2.2.2.2.1 = true) (hpop : ev_pop na [] st = some (as, rest)) (hs : Nat.ble (ev_sum rest) 8 = true) (hw : ∀ x S1, Q x → ev_w X M d (pc + 3) lv ((encc x).toList ++ rest) S1 (K x S1) enc P) : ev_w X M d pc lv st S (ev_bd Jc K) enc P := by
  cases hJ : Jc with
  | none => exact ev_w_none
  | some q => exact ev_r_inv (hc q.1 q.2 hJ) (fun h call h' n' dc ds hV e => ev_s_stat hkd hi hl hP hna hpop hs e) (hw q.1 q.2)
/-- a method, out of its judgement -/
theorem ev_ref_of {J : Option (β × ev_St)} {mi : Nat} (hP : (ev_P mi).isSome = true) (hs : Nat.ble (ev_sum as) (ev_Mof mi).2.1 = true) (hlv : lv_args 0 as = lv) (hw : ev_w none (ev_Mof mi) d 0 lv [] S J enc P) (x : β) (S' : ev_St) (hJ : J = some (x, S')) : ev_Ref (d + 1) mi as S (enc x) S' (P x) := by
  intro h hV
  obtain ⟨w0, w1, w2, B, h', hV', e⟩ := hw x S' hJ h hV
  refine ⟨w0, w1, w2, B, h', hV', fun F hF => ?_⟩
  obtain ⟨r, r1, r2⟩ := e F F hF hF 0 0
  have e0 : ev_cF F (d + 1) mi as h (ev_sN S) = (match ev_P mi with
    | some M => (match Nat.ble (ev_sum as) M.2.1 with
      | true => (match ev_run (ev_sF none (ev_cF F d) M) F 0 (lv_args 0 as) [] h (ev_sN S) 0 0 with
        | some r => ev_end ev_TXs M (d + 1) r
        | none => none)
      | false => none)
    | none => none) := rfl
  rw [e0, ev_P_of hP]
  dsimp only
  rw [hs, hlv]
  dsimp only
  rw [r1]
  dsimp only
  rw [r2, Nat.zero_add, Nat.zero_add]
end EVK
