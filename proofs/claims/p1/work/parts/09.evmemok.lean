/-! CELLS: the evaluator's step is the machine's -/
def ev_clOk (Ts : List Cond) (cl : List vw_C) (cn : Nat → String) (ft : Nat → Nat → FieldType) (nf : Nat → Nat) : Prop := ∀ (ci : Nat) (q : vw_C), cl[ci]? = some q → q.1 = cn ci ∧ q.2.2 = nf ci ∧ (∀ w ∈ u_ws q.1 q.2.1 q.2.2, w ∈ Ts) ∧ (∀ k, k < q.2.2 → parseFieldDescriptor (q.2.1 k).2.2.1 = some (ft ci k)) ∧ (∀ a, a < q.2.2 → ∀ b, b < q.2.2 → a ≠ b → (q.2.1 a).2.1 ≠ (q.2.1 b).2.1)
def ev_fieldOk (Ts : List Cond) (cl : List vw_C) (own : String) (x ci f fin : Nat) : Prop := ∃ q : vw_C, cl[ci]? = some q ∧ f < q.2.2 ∧ Cond.fieldLink own x (q.2.1 f).1 (q.2.1 f).2.1 (q.2.1 f).2.2.1 ∈ Ts ∧ ((fin = 0 ∧ (q.2.1 f).2.2.2 = false) ∨ (fin = 1 ∧ (q.2.1 f).2.2.2 = true ∧ (q.2.1 f).1 = own) ∨ fin = 2)
def ev_newOk (Ts : List Cond) (cl : List vw_C) (own : String) (x ci : Nat) : Prop := ∃ q : vw_C, cl[ci]? = some q ∧ Cond.classLink own x q.1 ∈ Ts ∧ Cond.instantiable q.1 q.2.2 ∈ Ts ∧ Cond.initialized q.1 ∈ Ts
def ev_compOk (Ts : List Cond) (ov : List FieldType) (own : String) (x : Nat) : FieldType → Prop
  | .object C => Cond.classLink own x C ∈ Ts ∧ FieldType.object C ∈ ov
  | .array (.array t) => Cond.classLink own x ("[" ++ (FieldType.array t).toString) ∈ Ts ∧ FieldType.array t ∈ ov ∧ Cond.arrayClass t ∈ Ts
  | .array t => Cond.classLink own x (FieldType.array t).toString ∈ Ts ∧ FieldType.array t ∈ ov
  | _ => False
def ev_cstOk (Ts : List Cond) (own : String) (x : Nat) : Value → Prop
  | .int v => Cond.constant own x v ∈ Ts
  | .long v => Cond.constantLong own x v ∈ Ts
  | _ => False
def ev_poolOk (Ts : List Cond) (cl : List vw_C) (ov : List FieldType) (own : String) (E : ev_T) : Prop :=
  (∀ x ci f fin, E.1 x = some (ci, f, fin) → ev_fieldOk Ts cl own x ci f fin) ∧ (∀ x ci, E.2.1 x = some ci → ev_newOk Ts cl own x ci) ∧ (∀ x ty, E.2.2.1 x = some ty → ev_compOk Ts ov own x ty) ∧ (∀ x v, E.2.2.2 x = some v → ev_cstOk Ts own x v)
/-- the world of the machine that the abstract cells h stand for -/
def ev_J (D : va_G) (cl : List vw_C) (A : Nat → Prop) (s : State) (H0 H : Heap) (locs : List Loc) (ad : List Nat) (b : Nat) (h : List ev_E) (n : Nat) : Prop := ∃ ws : va_W, va_P D cl ws H ∧ va_D A ws ∧ va_S A H0 H locs ∧ ev_W s ad b h ws ∧ h.length = n
theorem ev_get_ok {pc n ci f : Nat} {r : List Value} {h : List ev_E} {x : Option ev_E} {o : ev_O} (e : ev_get pc r h n ci f x = some o) : ∃ fs v, x = some (.inr (ci, fs)) ∧ fs[f]? = some v ∧ (pc + 3, v :: r, h, n, 0, 0) = o := by
  unfold ev_get at e
  split at e
  · next c fs =>
    split at e
    · next hc =>
      have := Nat.eq_of_beq_eq_true hc
      subst this
      split at e
      · next v hv => exact ⟨fs, v, rfl, hv, Option.some.inj e⟩
      · cases e
    · cases e
  · cases e
theorem ev_put_ok {ft : Nat → Nat → FieldType} {pc n ci f k : Nat} {r : List Value} {v : Value} {h : List ev_E} {x : Option ev_E} {o : ev_O} (e : ev_put ft pc r h n ci f k v x = some o) : ∃ fs, x = some (.inr (ci, fs)) ∧ ev_fit (ft ci f) v = true ∧ f < fs.length ∧ (pc + 3, r, h.set k (.inr (ci, fs.set f v)), n, 0, 0) = o := by
  unfold ev_put at e
  split at e
  · next c fs =>
    split at e
    · next hc =>
      rw [Bool.and_eq_true, Bool.and_eq_true] at hc
      obtain ⟨h1, h2, h3⟩ := hc
      have := Nat.eq_of_beq_eq_true h1
      subst this
      exact ⟨fs, rfl, h2, by simpa [Nat.blt_eq] using h3, Option.some.inj e⟩
    · cases e
  · cases e
theorem ev_ald_ok {lg rf : Bool} {ts : List FieldType} {pc n : Nat} {r : List Value} {h : List ev_E} {i : Int32} {x : Option ev_E} {o : ev_O} (e : ev_ald lg rf ts pc r h n i x = some o) : ∃ ty N l, x = some (.inl (ty, N, l)) ∧ vp_in i N ∧ ty ∈ ts ∧ (pc + 1, ev_el lg rf l i.toNatClampNeg :: r, h, n, 0, 0) = o := by
  unfold ev_ald at e
  split at e
  · next ty N l =>
    split at e
    · next hc =>
      rw [Bool.and_eq_true] at hc
      exact ⟨ty, N, l, rfl, ev_in_ok hc.1, of_decide_eq_true hc.2, Option.some.inj e⟩
    · cases e
  · cases e
theorem ev_ast_ok {ts : List FieldType} {pc n k : Nat} {r : List Value} {h : List ev_E} {i : Int32} {v : Value} {x : Option ev_E} {o : ev_O} (e : ev_ast ts pc r h n k i v x = some o) : ∃ ty N l, x = some (.inl (ty, N, l)) ∧ vp_in i N ∧ ty ∈ ts ∧ (pc + 1, r, h.set k (.inl (ty, N, (i.toNatClampNeg, narrow ty v) :: l)), n, 0, 0) = o := by
  unfold ev_ast at e
  split at e
  · next ty N l =>
    split at e
    · next hc =>
      rw [Bool.and_eq_true] at hc
      exact ⟨ty, N, l, rfl, ev_in_ok hc.1, of_decide_eq_true hc.2, Option.some.inj e⟩
    · cases e
  · cases e
theorem ev_len_ok {pc n : Nat} {r : List Value} {h : List ev_E} {x : Option ev_E} {o : ev_O} (e : ev_len pc r h n x = some o) : ∃ ty N l, x = some (.inl (ty, N, l)) ∧ (pc + 1, .int (Int32.ofNat N) :: r, h, n, 0, 0) = o := by
  unfold ev_len at e
  split at e
  · next ty N l => exact ⟨ty, N, l, rfl, Option.some.inj e⟩
  · cases e
theorem ev_newa_ok {ty : FieldType} {pc len n : Nat} {r : List Value} {h : List ev_E} {x : Int32} {o : ev_O} (e : ev_newa ty pc len r h n x = some o) : ¬ x < 0 ∧ x.toNatClampNeg * componentBytes ty ≤ 536870912 ∧ (pc + len, .ref n :: r, h ++ [.inl (ty, x.toNatClampNeg, [])], n + 1, 1, x.toNatClampNeg) = o := by
  unfold ev_newa at e
  split at e
  · next hc =>
    rw [Bool.and_eq_true] at hc
    exact ⟨of_decide_eq_false ((Bool.not_eq_true' _).mp hc.1), Nat.le_of_ble_eq_true hc.2, Option.some.inj e⟩
  · cases e
theorem ev_fld_get {ft : Nat → Nat → FieldType} {ini : Bool} {pc n : Nat} {st : List Value} {h : List ev_E} {x : Option (Nat × Nat × Nat)} {o : ev_O} (e : ev_fld ft ini pc st h n false x = some o) : ∃ ci f fin k r fs v, x = some (ci, f, fin) ∧ st = .ref k :: r ∧ h[k]? = some (.inr (ci, fs)) ∧ fs[f]? = some v ∧ (pc + 3, v :: r, h, n, 0, 0) = o := by
  unfold ev_fld at e
  split at e
  · next ci f fin =>
    dsimp only at e
    split at e
    · next k r =>
      obtain ⟨fs, v, h1, h2, h3⟩ := ev_get_ok e
      exact ⟨ci, f, fin, k, r, fs, v, rfl, rfl, h1, h2, h3⟩
    · cases e
  · cases e
theorem ev_fld_put {ft : Nat → Nat → FieldType} {ini : Bool} {pc n : Nat} {st : List Value} {h : List ev_E} {x : Option (Nat × Nat × Nat)} {o : ev_O} (e : ev_fld ft ini pc st h n true x = some o) : ∃ ci f fin k r fs v, x = some (ci, f, fin) ∧ (fin = 0 ∨ (fin = 1 ∧ ini = true)) ∧ st = v :: .ref k :: r ∧ h[k]? = some (.inr (ci, fs)) ∧ ev_fit (ft ci f) v = true ∧ f < fs.length ∧ (pc + 3, r, h.set k (.inr (ci, fs.set f v)), n, 0, 0) = o := by
  unfold ev_fld at e
  split at e
  · next ci f fin =>
    dsimp only at e
    split at e
    · next hc =>
      split at e
      · next v k r =>
        obtain ⟨fs, h1, h2, h3, h4⟩ := ev_put_ok e
        refine ⟨ci, f, fin, k, r, fs, v, rfl, ?_, rfl, h1, h2, h3, h4⟩
        rw [Bool.or_eq_true, Bool.and_eq_true] at hc
        rcases hc with hc | hc
        · exact Or.inl (Nat.eq_of_beq_eq_true hc)
        · exact Or.inr ⟨Nat.eq_of_beq_eq_true hc.1, hc.2⟩
      · cases e
    · cases e
  · cases e
theorem ev_cst_i {len k pc n : Nat} {st : List Value} {h : List ev_E} {x : Option Value} {o : ev_O} (e : ev_cst len k pc st h n false x = some o) : ∃ v, x = some (.int v) ∧ len = k ∧ (pc + k, .int v :: st, h, n, 0, 0) = o := by
  unfold ev_cst at e
  split at e
  · next v =>
    obtain ⟨h1, h2⟩ := ev_g_ok e
    exact ⟨v, rfl, h1, Option.some.inj h2⟩
  · next v => cases e
  · cases e
theorem ev_cst_l {len k pc n : Nat} {st : List Value} {h : List ev_E} {x : Option Value} {o : ev_O} (e : ev_cst len k pc st h n true x = some o) : ∃ v, x = some (.long v) ∧ len = k ∧ (pc + k, .long v :: st, h, n, 0, 0) = o := by
  unfold ev_cst at e
  split at e
  · next v => cases e
  · next v =>
    obtain ⟨h1, h2⟩ := ev_g_ok e
    exact ⟨v, rfl, h1, Option.some.inj h2⟩
  · cases e
theorem ev_mna_ok {pc n : Nat} {r : List Value} {h : List ev_E} {y z : Int32} {o : ev_O} (e : ev_mna pc r h n y z = some o) : ¬ y < 0 ∧ ¬ z < 0 ∧ y.toNatClampNeg * 4 ≤ 536870912 ∧ z.toNatClampNeg * 4 ≤ 536870912 ∧ (pc + 4, .ref n :: r, h ++ ev_rows n y.toNatClampNeg z.toNatClampNeg, n + (1 + y.toNatClampNeg), 1 + y.toNatClampNeg, y.toNatClampNeg + y.toNatClampNeg * z.toNatClampNeg) = o := by
  unfold ev_mna at e
  split at e
  · next hc =>
    rw [Bool.and_eq_true, Bool.and_eq_true, Bool.and_eq_true] at hc
    obtain ⟨c1, c2, c3, c4⟩ := hc
    exact ⟨of_decide_eq_false ((Bool.not_eq_true' _).mp c1), of_decide_eq_false ((Bool.not_eq_true' _).mp c2), Nat.le_of_ble_eq_true c3, Nat.le_of_ble_eq_true c4, Option.some.inj e⟩
  · cases e
