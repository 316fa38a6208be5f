/-! more RULES: loads, jumps, what methods answer -/
def ev_oI (x : Int) : Option Value := some (.int (Int32.ofInt x))
def ev_oL (x : Int64) : Option Value := some (.long x)
def ev_oR (r : Nat) : Option Value := some (ev_nv r)
def ev_oU (_ : Unit) : Option Value := none
def ev_eI (x : Int) : Option Value ⊕ String := .inl (ev_oI x)
def ev_eL (x : Int64) : Option Value ⊕ String := .inl (ev_oL x)
def ev_eR (r : Nat) : Option Value ⊕ String := .inl (ev_oR r)
def ev_eU (u : Unit) : Option Value ⊕ String := .inl (ev_oU u)
def ev_eX : Int ⊕ String → Option Value ⊕ String
  | .inl x => ev_eI x
  | .inr E => .inr E
abbrev ev_bl (x : Int) : Prop := x = 0 ∨ x = 1
theorem ev_bl_rng {x : Int} (h : ev_bl x) : ev_rng x := by
  rcases h with rfl | rfl <;> decide
def ev_PX : Int ⊕ String → Prop
  | .inl x => ev_rng x
  | .inr _ => True
def ev_PU {α : Type} (_ : α) : Prop := True
theorem ev_fit_bl {x : Int} (h : ev_bl x) : ev_fit .boolean (.int (Int32.ofInt x)) = true := by
  rcases h with rfl | rfl <;> decide +kernel
theorem ev_ret_bl {x : Int} (h : ev_bl x) : ev_retOk .boolean (.int (Int32.ofInt x)) = true := by
  rcases h with rfl | rfl <;> decide +kernel
theorem ev_nar_bl {x : Int} (h : ev_bl x) : narrow .boolean (.int (Int32.ofInt x)) = .int (Int32.ofInt x) := by
  rcases h with rfl | rfl <;> rfl
section EVR
variable {β γ : Type} {X : ev_X} {M : ev_M} {d pc pc' : Nat} {lv lv' : List (Nat × Value)} {st st' as rest : List Value} {S : ev_St} {enc : β → Option Value ⊕ String} {P : β → Prop} {y ci f fin z k : Nat} {J : Option (β × ev_St)}
theorem ev_r_iload {v : Int32} (hi : M.1 pc = some (.iload k, 2)) (hl : ev_lk lv k = some (.int v)) (hw : ev_w X M d (pc + 2) lv (.int v :: st) S J enc P) : ev_w X M d pc lv st S J enc P := ev_r_pure hi (by
  show (match ev_lk lv k with
    | some (Value.int x) => some (pc + 2, lv, Value.int x :: st)
    | _ => none) = _
  rw [hl]) hw
theorem ev_r_iload_n {k : Fin 4} {v : Int32} (hi : M.1 pc = some (.iload_n k, 1)) (hl : ev_lk lv k.val = some (.int v)) (hw : ev_w X M d (pc + 1) lv (.int v :: st) S J enc P) : ev_w X M d pc lv st S J enc P := ev_r_pure hi (by
  show (match ev_lk lv k.val with
    | some (Value.int x) => some (pc + 1, lv, Value.int x :: st)
    | _ => none) = _
  rw [hl]) hw
theorem ev_r_lload {v : Int64} (hi : M.1 pc = some (.lload k, 2)) (hl : ev_lk lv k = some (.long v)) (hw : ev_w X M d (pc + 2) lv (.long v :: st) S J enc P) : ev_w X M d pc lv st S J enc P := ev_r_pure hi (by
  show (match ev_lk lv k with
    | some (Value.long x) => some (pc + 2, lv, Value.long x :: st)
    | _ => none) = _
  rw [hl]) hw
theorem ev_r_lload_n {k : Fin 4} {v : Int64} (hi : M.1 pc = some (.lload_n k, 1)) (hl : ev_lk lv k.val = some (.long v)) (hw : ev_w X M d (pc + 1) lv (.long v :: st) S J enc P) : ev_w X M d pc lv st S J enc P := ev_r_pure hi (by
  show (match ev_lk lv k.val with
    | some (Value.long x) => some (pc + 1, lv, Value.long x :: st)
    | _ => none) = _
  rw [hl]) hw
theorem ev_r_goto {o : Int} {t : Nat} (hi : M.1 pc = some (.goto o, 3)) (ht : ev_tg pc o = some t) (hw : ev_w X M d t lv st S J enc P) : ev_w X M d pc lv st S J enc P := ev_r_pure hi (by
  show ev_to lv st (ev_tg pc o) = _
  rw [ht]
  rfl) hw
theorem ev_r_null (hi : M.1 pc = some (.aconst_null, 1)) (hw : ev_w X M d (pc + 1) lv (ev_nv 0 :: st) S J enc P) : ev_w X M d pc lv st S J enc P := ev_r_pure hi rfl hw
theorem ev_r_lconst {c : Fin 2} (hi : M.1 pc = some (.lconst c, 1)) (hw : ev_w X M d (pc + 1) lv (.long (Int64.ofNat (c : Nat)) :: st) S J enc P) : ev_w X M d pc lv st S J enc P := ev_r_pure hi rfl hw
/-- lookupswitch and tableswitch: a case at a time -/
theorem ev_r_sw {i : Instr} {len : Nat} {v : Int32} (hi : M.1 pc = some (i, len)) (hp : ev_pure M.2.1 i len pc lv (.int v :: st) = some (pc', lv, st)) (hw : ev_w X M d pc' lv st S J enc P) : ev_w X M d pc lv (.int v :: st) S J enc P := ev_r_pure hi hp hw
theorem ev_r_ite {J1 J2 : Option (β × ev_St)} {c : Prop} [Decidable c] (h1 : c → ev_w X M d pc lv st S J1 enc P) (h2 : ¬ c → ev_w X M d pc lv st S J2 enc P) : ev_w X M d pc lv st S (if c then J1 else J2) enc P := by
  by_cases h : c
  · rw [if_pos h]; exact h1 h
  · rw [if_neg h]; exact h2 h
theorem ev_r_mm1 {J : Int → Option (β × ev_St)} {x w : Int} {kd : Nat} (hkd : kd = 9 ∨ kd = 10) (hi : M.1 pc = some (.invokestatic y, 3)) (hl : ev_Lk M.2.2.1 y = some (kd, 0, 2)) (hs : Nat.ble (ev_sum st) 8 = true) (hw : ∀ z, ev_rng z → ev_w X M d (pc + 3) lv (.int (Int32.ofInt z) :: st) S (J z) enc P) : ev_w X M d pc lv (.int (Int32.ofInt w) :: .int (Int32.ofInt x) :: st) S (ev_b (ev_mm (Nat.beq kd 9) (Int32.ofInt x) (Int32.ofInt w)).toInt J) enc P :=
  ev_r_mem (S1 := S) (pc' := pc + 3) (lv' := lv) (st' := .int (ev_mm (Nat.beq kd 9) (Int32.ofInt x) (Int32.ofInt w)) :: st) rfl rfl (fun h hV => ⟨h, fun call => by
    refine ev_one_static hi ?_
    rw [hl]
    have e : ev_inv ev_P M call pc lv (.int (Int32.ofInt w) :: .int (Int32.ofInt x) :: st) h (ev_sN S) 2 (some (kd, 0, 2)) = (match Nat.ble (ev_sum st) 8 with
      | true => some (pc + 3, lv, Value.int (ev_mm (Nat.beq kd 9) (Int32.ofInt x) (Int32.ofInt w)) :: st, h, ev_sN S, 0, 0)
      | false => none) := by
      rcases hkd with rfl | rfl <;> rfl
    rw [e, hs], hV⟩) (by
    have := hw _ (ev_rng_i (ev_mm (Nat.beq kd 9) (Int32.ofInt x) (Int32.ofInt w)))
    rw [ev_io] at this
    exact this)
end EVR
theorem ev_allk {p q : Nat → Bool} (h : ∀ k, k < 724 → p k = true → q k = true) (hp : ∀ k, p k = true → k < 724) {k : Nat} (hk : p k = true) : q k = true := h k (hp k hk) hk
theorem ev_isOb_lt {ci k : Nat} (h : ev_isOb k ci = true) : k < 724 := by
  obtain ⟨t, e⟩ := ev_isOb_sh h
  exact ev_sh_lt e
/-! LOCALS, told by what stands where -/
theorem ev_l1 {lv : List (Nat × Value)} {k i : Nat} {v w : Value} (h : ev_lk lv k = some v) (hk : k ≠ i) (hk2 : k + 1 ≠ i) : ev_lk (ev_st1 lv i w) k = some v := by
  unfold ev_st1
  unfold ev_lk
  have e : Nat.beq i k = false := by
    cases h9 : Nat.beq i k with
    | true => exact absurd (Nat.eq_of_beq_eq_true h9).symm hk
    | false => rfl
  rw [e]
  refine ev_lk_filter (fun q h1 h2 => ?_) h
  rw [h1]
  simp [hk, hk2]
theorem ev_l2 {lv : List (Nat × Value)} {k i : Nat} {v w : Value} (h : ev_lk lv k = some v) (hk : k ≠ i) (hk1 : k ≠ i + 1) (hk2 : k + 1 ≠ i ∨ v.category = 1) : ev_lk (ev_st2 lv i w) k = some v := by
  unfold ev_st2
  unfold ev_lk
  have e : Nat.beq i k = false := by
    cases h9 : Nat.beq i k with
    | true => exact absurd (Nat.eq_of_beq_eq_true h9).symm hk
    | false => rfl
  rw [e]
  refine ev_lk_filter (fun q h1 h2 => ?_) h
  rw [h1, h2]
  rcases hk2 with h3 | h3
  · simp [hk, hk1, h3]
  · simp [hk, hk1, h3]
theorem ev_l2s {lv : List (Nat × Value)} {i : Nat} {w : Value} : ev_lk (ev_st2 lv i w) i = some w := by
  unfold ev_st2
  unfold ev_lk
  rw [Nat.beq_refl]
/-! what the fixed fields of objects refer to, in one pass over the table -/
def ev_tls (ci z : Nat) (ok : Nat × Nat × FieldType × Nat × Nat → Bool) : List (Nat × Nat × FieldType × Nat × Nat) → Bool
  | [] => true
  | s :: l => (match s with
    | (0, c, _) => (match Nat.beq c ci with
      | true => (match (s :: l)[z]? with
        | some q => ok q
        | none => false)
      | false => true)
    | _ => true) && ev_tls ci z ok l
theorem ev_tls_ok {ci z : Nat} {ok : Nat × Nat × FieldType × Nat × Nat → Bool} : ∀ {l : List (Nat × Nat × FieldType × Nat × Nat)}, ev_tls ci z ok l = true → ∀ k t, l[k]? = some (0, ci, t) → ∃ q, l[k + z]? = some q ∧ ok q = true
  | [], _, k, t, h => by cases h
  | s :: l, hl, 0, t, h => by
    rw [List.getElem?_cons_zero] at h
    cases h
    unfold ev_tls at hl
    rw [Bool.and_eq_true] at hl
    have h1 : (match Nat.beq ci ci with
      | true => (match ((0, ci, t) :: l)[z]? with
        | some q => ok q
        | none => false)
      | false => true) = true := hl.1
    rw [Nat.zero_add]
    rw [Nat.beq_refl] at h1
    dsimp only at h1
    split at h1
    · next q e => exact ⟨q, e, h1⟩
    · cases h1
  | s :: l, hl, k + 1, t, h => by
    rw [List.getElem?_cons_succ] at h
    unfold ev_tls at hl
    rw [Bool.and_eq_true] at hl
    obtain ⟨q, e1, e2⟩ := ev_tls_ok hl.2 k t h
    refine ⟨q, ?_, e2⟩
    rw [show k + 1 + z = (k + z) + 1 by omega, List.getElem?_cons_succ]
    exact e1
def ev_qO (c : Nat) (q : Nat × Nat × FieldType × Nat × Nat) : Bool := Nat.beq q.1 0 && Nat.beq q.2.1 c
def ev_qA (kd : Nat) (ty : FieldType) (q : Nat × Nat × FieldType × Nat × Nat) : Bool := Nat.beq q.1 kd && decide (q.2.2.1 = ty)
theorem ev_foO {ci z c k : Nat} (e : ev_tls ci z (ev_qO c) ev_shs = true) (h : ev_isOb k ci = true) : ev_isOb (k + z) c = true := by
  obtain ⟨t, hs⟩ := ev_isOb_sh h
  obtain ⟨q, e1, e2⟩ := ev_tls_ok e k t hs
  obtain ⟨q1, q2, q3⟩ := q
  have e2 : (Nat.beq q1 0 && Nat.beq q2 c) = true := e2
  rw [Bool.and_eq_true] at e2
  unfold ev_isOb
  rw [e1, Nat.eq_of_beq_eq_true e2.1]
  exact e2.2
theorem ev_foA {ci z kd k : Nat} {ty : FieldType} (e : ev_tls ci z (ev_qA kd ty) ev_shs = true) (h : ev_isOb k ci = true) : ev_isAb (k + z) kd ty = true := by
  obtain ⟨t, hs⟩ := ev_isOb_sh h
  obtain ⟨q, e1, e2⟩ := ev_tls_ok e k t hs
  obtain ⟨q1, q2, q3, q4⟩ := q
  unfold ev_isAb
  rw [e1]
  exact e2
