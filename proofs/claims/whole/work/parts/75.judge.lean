/-! THE JUDGEMENT: from a place of a method it comes to its end, with what is told and with these cells; no fuel is told -/
def ev_cF (F d : Nat) : Nat → List Value → List ev_E → Nat → Option ev_Z := ev_call ev_CN ev_ft ev_nf ev_PEs ev_Lk ev_TXs ev_P F d
def ev_sF (X : ev_X) (call : Nat → List Value → List ev_E → Nat → Option ev_Z) (M : ev_M) : Nat → List (Nat × Value) → List Value → List ev_E → Nat → Option ev_S := ev_one ev_CN ev_ft ev_nf ev_PEs ev_Lk ev_P X M call
def ev_m (X : ev_X) (M : ev_M) (d pc : Nat) (lv : List (Nat × Value)) (st : List Value) (S : ev_St) (out : Option Value ⊕ String) (S' : ev_St) (P : Prop) : Prop :=
  ∀ h, ev_V h S → P ∧ ev_sC S ≤ ev_sC S' ∧ ev_sZ S ≤ ev_sZ S' ∧ ∃ B h', ev_V h' S' ∧ ∀ F f, B ≤ F → B ≤ f → ∀ a b, ∃ r, ev_run (ev_sF X (ev_cF F d) M) f pc lv st h (ev_sN S) a b = some r ∧ ev_end ev_TXs M (d + 1) r = some (out, h', ev_sN S', a + (ev_sC S' - ev_sC S), b + (ev_sZ S' - ev_sZ S))
/-- whatever J tells: the method comes to that -/
def ev_w {β : Type} (X : ev_X) (M : ev_M) (d pc : Nat) (lv : List (Nat × Value)) (st : List Value) (S : ev_St) (J : Option (β × ev_St)) (enc : β → Option Value ⊕ String) (P : β → Prop) : Prop := ∀ x S', J = some (x, S') → ev_m X M d pc lv st S (enc x) S' (P x)
/-- a call -/
def ev_Ref (d mi : Nat) (as : List Value) (S : ev_St) (out : Option Value ⊕ String) (S' : ev_St) (P : Prop) : Prop :=
  ∀ h, ev_V h S → P ∧ ev_sC S ≤ ev_sC S' ∧ ev_sZ S ≤ ev_sZ S' ∧ ∃ B h', ev_V h' S' ∧ ∀ F, B ≤ F → ev_cF F d mi as h (ev_sN S) = some (out, h', ev_sN S', ev_sC S' - ev_sC S, ev_sZ S' - ev_sZ S)
def ev_b {α β : Type} (a : α) (f : α → β) : β := f a
def ev_ck {β : Type} (e : Int) (f : Int → Option β) : Option β := if ev_rng e then f e else none
section EVJ
variable {β γ : Type} {X : ev_X} {M : ev_M} {d pc pc' : Nat} {lv lv' : List (Nat × Value)} {st st' : List Value} {S : ev_St} {enc : β → Option Value ⊕ String} {P : β → Prop}
theorem ev_w_V {J : Option (β × ev_St)} (hw : ∀ h, ev_V h S → ev_w X M d pc lv st S J enc P) : ev_w X M d pc lv st S J enc P := fun x S' hJ h hV => hw h hV x S' hJ h hV
theorem ev_w_none : ev_w X M d pc lv st S (none : Option (β × ev_St)) enc P := fun _ _ h => by cases h
theorem ev_r_mem {J : Option (β × ev_St)} {S1 : ev_St} (hC : ev_sC S1 = ev_sC S) (hZ : ev_sZ S1 = ev_sZ S) (hs : ∀ h, ev_V h S → ∃ h1, (∀ call, ev_sF X call M pc lv st h (ev_sN S) = some (pc', lv', st', h1, ev_sN S1, 0, 0)) ∧ ev_V h1 S1) (hw : ev_w X M d pc' lv' st' S1 J enc P) : ev_w X M d pc lv st S J enc P := by
  intro x S' hJ h hV
  obtain ⟨h1, e1, hV1⟩ := hs h hV
  obtain ⟨w0, w1, w2, B, h', q3, hB⟩ := hw x S' hJ h1 hV1
  rw [hC] at w1
  rw [hZ] at w2
  refine ⟨w0, w1, w2, B + 1, h', q3, fun F f hF hf a b => ?_⟩
  obtain ⟨g, rfl⟩ : ∃ g, f = g + 1 := ⟨f - 1, by omega⟩
  obtain ⟨r, q1, q2⟩ := hB F g (by omega) (by omega) a b
  rw [hC, hZ] at q2
  refine ⟨r, ?_, q2⟩
  unfold ev_run
  rw [e1]
  exact q1
theorem ev_r_pure {J : Option (β × ev_St)} {i : Instr} {len : Nat} (hi : M.1 pc = some (i, len)) (hp : ev_pure M.2.1 i len pc lv st = some (pc', lv', st')) (hw : ev_w X M d pc' lv' st' S J enc P) : ev_w X M d pc lv st S J enc P :=
  ev_r_mem rfl rfl (fun h hV => ⟨h, fun call => by
    unfold ev_sF ev_one
    rw [hi]
    dsimp only
    rw [hp], hV⟩) hw
/-- a step that the class's cells answer -/
theorem ev_r_mm {J : Option (β × ev_St)} {S1 : ev_St} {i : Instr} {len : Nat} (hC : ev_sC S1 = ev_sC S) (hZ : ev_sZ S1 = ev_sZ S) (hN : ev_sN S1 = ev_sN S) (hi : M.1 pc = some (i, len)) (hp : ev_pure M.2.1 i len pc lv st = none) (hm : ∀ h, ev_V h S → ∃ h1, ev_mem ev_CN ev_ft ev_nf (ev_PEs M.2.2.1) M.2.2.2.1 i len pc st h (ev_sN S) = some (pc', st', h1, ev_sN S, 0, 0) ∧ ev_V h1 S1) (hw : ev_w X M d pc' lv st' S1 J enc P) : ev_w X M d pc lv st S J enc P :=
  ev_r_mem hC hZ (fun h hV => by
    obtain ⟨h1, e, hV1⟩ := hm h hV
    refine ⟨h1, fun call => ?_, hV1⟩
    unfold ev_sF ev_one
    rw [hi]
    dsimp only
    rw [hp]
    dsimp only
    rw [e, hN]) hw
/-! constants, locals -/
theorem ev_r_iconst {J : Option (β × ev_St)} {k : Int} (hi : M.1 pc = some (.iconst k, 1)) (hw : ev_w X M d (pc + 1) lv (.int (Int32.ofInt k) :: st) S J enc P) : ev_w X M d pc lv st S J enc P := ev_r_pure hi rfl hw
theorem ev_r_bipush {J : Option (β × ev_St)} {k : Int} (hi : M.1 pc = some (.bipush k, 2)) (hk : (Int8.ofInt k).toInt32 = Int32.ofInt k) (hw : ev_w X M d (pc + 2) lv (.int (Int32.ofInt k) :: st) S J enc P) : ev_w X M d pc lv st S J enc P := ev_r_pure hi (by rw [← hk]; rfl) hw
theorem ev_r_sipush {J : Option (β × ev_St)} {k : Int} (hi : M.1 pc = some (.sipush k, 3)) (hk : (Int16.ofInt k).toInt32 = Int32.ofInt k) (hw : ev_w X M d (pc + 3) lv (.int (Int32.ofInt k) :: st) S J enc P) : ev_w X M d pc lv st S J enc P := ev_r_pure hi (by rw [← hk]; rfl) hw
theorem ev_r_ldc {J : Option (β × ev_St)} {y : Nat} {k : Int} (hi : M.1 pc = some (.ldc y, 2)) (hy : (ev_PEs M.2.2.1).2.2.2 y = some (.int (Int32.ofInt k))) (hw : ev_w X M d (pc + 2) lv (.int (Int32.ofInt k) :: st) S J enc P) : ev_w X M d pc lv st S J enc P :=
  ev_r_mm (S1 := S) rfl rfl rfl hi rfl (fun h hV => ⟨h, by
    show ev_cst 2 2 pc st h (ev_sN S) false ((ev_PEs M.2.2.1).2.2.2 y) = _
    rw [hy]
    rfl, hV⟩) hw
theorem ev_r_ldcw {J : Option (β × ev_St)} {y : Nat} {k : Int} (hi : M.1 pc = some (.ldc_w y, 3)) (hy : (ev_PEs M.2.2.1).2.2.2 y = some (.int (Int32.ofInt k))) (hw : ev_w X M d (pc + 3) lv (.int (Int32.ofInt k) :: st) S J enc P) : ev_w X M d pc lv st S J enc P :=
  ev_r_mm (S1 := S) rfl rfl rfl hi rfl (fun h hV => ⟨h, by
    show ev_cst 3 3 pc st h (ev_sN S) false ((ev_PEs M.2.2.1).2.2.2 y) = _
    rw [hy]
    rfl, hV⟩) hw
theorem ev_r_ldc2 {J : Option (β × ev_St)} {y : Nat} {k : Int64} (hi : M.1 pc = some (.ldc2_w y, 3)) (hy : (ev_PEs M.2.2.1).2.2.2 y = some (.long k)) (hw : ev_w X M d (pc + 3) lv (.long k :: st) S J enc P) : ev_w X M d pc lv st S J enc P :=
  ev_r_mm (S1 := S) rfl rfl rfl hi rfl (fun h hV => ⟨h, by
    show ev_cst 3 3 pc st h (ev_sN S) true ((ev_PEs M.2.2.1).2.2.2 y) = _
    rw [hy]
    rfl, hV⟩) hw
theorem ev_r_istore {J : Option (β × ev_St)} {k : Nat} {x : Int32} (hi : M.1 pc = some (.istore k, 2)) (hk : k < M.2.1) (hl : ev_st1 lv k (.int x) = lv') (hw : ev_w X M d (pc + 2) lv' st S J enc P) : ev_w X M d pc lv (.int x :: st) S J enc P := ev_r_pure hi (by
  show (match decide (k < M.2.1) with
    | true => some (pc + 2, ev_st1 lv k (Value.int x), st)
    | false => none) = _
  rw [decide_eq_true hk, hl]) hw
theorem ev_r_istore_n {J : Option (β × ev_St)} {k : Fin 4} {x : Int32} (hi : M.1 pc = some (.istore_n k, 1)) (hk : k.val < M.2.1) (hl : ev_st1 lv k.val (.int x) = lv') (hw : ev_w X M d (pc + 1) lv' st S J enc P) : ev_w X M d pc lv (.int x :: st) S J enc P := ev_r_pure hi (by
  show (match decide (k.val < M.2.1) with
    | true => some (pc + 1, ev_st1 lv k.val (Value.int x), st)
    | false => none) = _
  rw [decide_eq_true hk, hl]) hw
theorem ev_r_lstore {J : Option (β × ev_St)} {k : Nat} {x : Int64} (hi : M.1 pc = some (.lstore k, 2)) (hk : k + 1 < M.2.1) (hl : ev_st2 lv k (.long x) = lv') (hw : ev_w X M d (pc + 2) lv' st S J enc P) : ev_w X M d pc lv (.long x :: st) S J enc P := ev_r_pure hi (by
  show (match decide (k + 1 < M.2.1) with
    | true => some (pc + 2, ev_st2 lv k (Value.long x), st)
    | false => none) = _
  rw [decide_eq_true hk, hl]) hw
theorem ev_r_lstore_n {J : Option (β × ev_St)} {k : Fin 4} {x : Int64} (hi : M.1 pc = some (.lstore_n k, 1)) (hk : k.val + 1 < M.2.1) (hl : ev_st2 lv k.val (.long x) = lv') (hw : ev_w X M d (pc + 1) lv' st S J enc P) : ev_w X M d pc lv (.long x :: st) S J enc P := ev_r_pure hi (by
  show (match decide (k.val + 1 < M.2.1) with
    | true => some (pc + 1, ev_st2 lv k.val (Value.long x), st)
    | false => none) = _
  rw [decide_eq_true hk, hl]) hw
def ev_isR : Value → Prop
  | .ref _ => True
  | .null => True
  | .retAddr _ => True
  | _ => False
theorem ev_isR_nv : ∀ r : Nat, ev_isR (ev_nv r)
  | 0 => trivial
  | _ + 1 => trivial
theorem ev_r_astore {J : Option (β × ev_St)} {k : Nat} {v : Value} (hv : ev_isR v) (hi : M.1 pc = some (.astore k, 2)) (hk : k < M.2.1) (hl : ev_st1 lv k v = lv') (hw : ev_w X M d (pc + 2) lv' st S J enc P) : ev_w X M d pc lv (v :: st) S J enc P := ev_r_pure hi (by
  cases v with
  | ref a => exact (show (match decide (k < M.2.1) with
    | true => some (pc + 2, ev_st1 lv k (Value.ref a), st)
    | false => none) = _ by rw [decide_eq_true hk, hl])
  | null => exact (show (match decide (k < M.2.1) with
    | true => some (pc + 2, ev_st1 lv k Value.null, st)
    | false => none) = _ by rw [decide_eq_true hk, hl])
  | retAddr a => exact (show (match decide (k < M.2.1) with
    | true => some (pc + 2, ev_st1 lv k (Value.retAddr a), st)
    | false => none) = _ by rw [decide_eq_true hk, hl])
  | _ => exact hv.elim) hw
theorem ev_r_astore_n {J : Option (β × ev_St)} {k : Fin 4} {v : Value} (hv : ev_isR v) (hi : M.1 pc = some (.astore_n k, 1)) (hk : k.val < M.2.1) (hl : ev_st1 lv k.val v = lv') (hw : ev_w X M d (pc + 1) lv' st S J enc P) : ev_w X M d pc lv (v :: st) S J enc P := ev_r_pure hi (by
  cases v with
  | ref a => exact (show (match decide (k.val < M.2.1) with
    | true => some (pc + 1, ev_st1 lv k.val (Value.ref a), st)
    | false => none) = _ by rw [decide_eq_true hk, hl])
  | null => exact (show (match decide (k.val < M.2.1) with
    | true => some (pc + 1, ev_st1 lv k.val Value.null, st)
    | false => none) = _ by rw [decide_eq_true hk, hl])
  | retAddr a => exact (show (match decide (k.val < M.2.1) with
    | true => some (pc + 1, ev_st1 lv k.val (Value.retAddr a), st)
    | false => none) = _ by rw [decide_eq_true hk, hl])
  | _ => exact hv.elim) hw
theorem ev_r_aload {J : Option (β × ev_St)} {k : Nat} {v : Value} (hv : ev_isR v) (hi : M.1 pc = some (.aload k, 2)) (hl : ev_lk lv k = some v) (hw : ev_w X M d (pc + 2) lv (v :: st) S J enc P) : ev_w X M d pc lv st S J enc P := ev_r_pure hi (by
  show (match ev_lk lv k with
    | some (Value.ref r) => some (pc + 2, lv, Value.ref r :: st)
    | some (Value.null) => some (pc + 2, lv, Value.null :: st)
    | some (Value.retAddr r) => some (pc + 2, lv, Value.retAddr r :: st)
    | _ => none) = _
  rw [hl]
  cases v with
  | ref a => rfl
  | null => rfl
  | retAddr a => rfl
  | _ => exact hv.elim) hw
theorem ev_r_aload_n {J : Option (β × ev_St)} {k : Fin 4} {v : Value} (hv : ev_isR v) (hi : M.1 pc = some (.aload_n k, 1)) (hl : ev_lk lv k.val = some v) (hw : ev_w X M d (pc + 1) lv (v :: st) S J enc P) : ev_w X M d pc lv st S J enc P := ev_r_pure hi (by
  show (match ev_lk lv k.val with
    | some (Value.ref r) => some (pc + 1, lv, Value.ref r :: st)
    | some (Value.null) => some (pc + 1, lv, Value.null :: st)
    | some (Value.retAddr r) => some (pc + 1, lv, Value.retAddr r :: st)
    | _ => none) = _
  rw [hl]
  cases v with
  | ref a => rfl
  | null => rfl
  | retAddr a => rfl
  | _ => exact hv.elim) hw
/-! arithmetic: what is computed is in the range, or nothing is claimed -/
theorem ev_r_ck {J : Int → Option (β × ev_St)} {e : Int} (hw : ev_rng e → ev_w X M d pc lv st S (J e) enc P) : ev_w X M d pc lv st S (ev_ck e J) enc P := by
  unfold ev_ck
  by_cases h : ev_rng e
  · rw [if_pos h]; exact hw h
  · rw [if_neg h]; exact ev_w_none
theorem ev_r_iadd {J : Int → Option (β × ev_St)} {x y : Int} (hi : M.1 pc = some (.iadd, 1)) (hw : ∀ z, ev_rng z → ev_w X M d (pc + 1) lv (.int (Int32.ofInt z) :: st) S (J z) enc P) : ev_w X M d pc lv (.int (Int32.ofInt y) :: .int (Int32.ofInt x) :: st) S (ev_ck (x + y) J) enc P :=
  ev_r_ck (fun h => ev_r_pure hi (by rw [Int32.ofInt_add]; rfl) (hw _ h))
theorem ev_r_isub {J : Int → Option (β × ev_St)} {x y : Int} (hi : M.1 pc = some (.isub, 1)) (hw : ∀ z, ev_rng z → ev_w X M d (pc + 1) lv (.int (Int32.ofInt z) :: st) S (J z) enc P) : ev_w X M d pc lv (.int (Int32.ofInt y) :: .int (Int32.ofInt x) :: st) S (ev_ck (x - y) J) enc P :=
  ev_r_ck (fun h => ev_r_pure hi (by rw [Int32.ofInt_sub]; rfl) (hw _ h))
theorem ev_r_imul {J : Int → Option (β × ev_St)} {x y : Int} (hi : M.1 pc = some (.imul, 1)) (hw : ∀ z, ev_rng z → ev_w X M d (pc + 1) lv (.int (Int32.ofInt z) :: st) S (J z) enc P) : ev_w X M d pc lv (.int (Int32.ofInt y) :: .int (Int32.ofInt x) :: st) S (ev_ck (x * y) J) enc P :=
  ev_r_ck (fun h => ev_r_pure hi (by rw [Int32.ofInt_mul]; rfl) (hw _ h))
theorem ev_r_ineg {J : Int → Option (β × ev_St)} {x : Int} (hi : M.1 pc = some (.ineg, 1)) (hw : ∀ z, ev_rng z → ev_w X M d (pc + 1) lv (.int (Int32.ofInt z) :: st) S (J z) enc P) : ev_w X M d pc lv (.int (Int32.ofInt x) :: st) S (ev_ck (-x) J) enc P :=
  ev_r_ck (fun h => ev_r_pure hi (by rw [Int32.ofInt_neg]; rfl) (hw _ h))
theorem ev_r_iinc {J : Int → Option (β × ev_St)} {k : Nat} {c x : Int} {lv1 : Int → List (Nat × Value)} (hi : M.1 pc = some (.iinc k c, 3)) (hk : k < M.2.1) (hv : ev_lk lv k = some (.int (Int32.ofInt x))) (hl : ∀ z, ev_st1 lv k (.int (Int32.ofInt z)) = lv1 z) (hw : ∀ z, ev_rng z → ev_w X M d (pc + 3) (lv1 z) st S (J z) enc P) : ev_w X M d pc lv st S (ev_ck (x + c) J) enc P :=
  ev_r_ck (fun h => ev_r_pure hi (by
    show (match decide (k < M.2.1) with
      | true => (match ev_lk lv k with
        | some (Value.int x) => some (pc + 3, ev_st1 lv k (Value.int (x + Int32.ofInt c)), st)
        | _ => none)
      | false => none) = _
    rw [decide_eq_true hk, hv]
    dsimp only
    rw [← Int32.ofInt_add, hl]) (hw _ h))
def ev_iand (a b : Int) : Int := (Int32.ofInt a &&& Int32.ofInt b).toInt
def ev_ior (a b : Int) : Int := (Int32.ofInt a ||| Int32.ofInt b).toInt
def ev_ixor (a b : Int) : Int := (Int32.ofInt a ^^^ Int32.ofInt b).toInt
def ev_ishl (a b : Int) : Int := (Int32.ofInt a <<< (Int32.ofInt b &&& 31)).toInt
def ev_ishr (a b : Int) : Int := (Int32.ofInt a >>> (Int32.ofInt b &&& 31)).toInt
def ev_iushr (a b : Int) : Int := (((Int32.ofInt a).toUInt32 >>> ((Int32.ofInt b).toUInt32 &&& Int32.toUInt32 31)).toInt32).toInt
def ev_idiv (a b : Int) : Int := (Int32.ofInt a / Int32.ofInt b).toInt
def ev_irem (a b : Int) : Int := (Int32.ofInt a - Int32.ofInt a / Int32.ofInt b * Int32.ofInt b).toInt
theorem ev_r_b {δ : Type} {J : δ → Option (β × ev_St)} {e : δ} (hw : ev_w X M d pc lv st S (J e) enc P) : ev_w X M d pc lv st S (ev_b e J) enc P := hw
/-- an operation upon two ints that is told by a function -/
theorem ev_r_bin {J : Int → Option (β × ev_St)} {x y : Int} {v : Int32} {i : Instr} (hi : M.1 pc = some (i, 1)) (hp : ev_pure M.2.1 i 1 pc lv (.int (Int32.ofInt y) :: .int (Int32.ofInt x) :: st) = some (pc + 1, lv, .int v :: st)) (hw : ∀ z, ev_rng z → ev_w X M d (pc + 1) lv (.int (Int32.ofInt z) :: st) S (J z) enc P) : ev_w X M d pc lv (.int (Int32.ofInt y) :: .int (Int32.ofInt x) :: st) S (ev_b v.toInt J) enc P :=
  ev_r_pure hi hp (by
    have := hw v.toInt (ev_rng_i v)
    rw [ev_io] at this
    exact this)
theorem ev_r_iand {J : Int → Option (β × ev_St)} {x y : Int} (hi : M.1 pc = some (.iand, 1)) (hw : ∀ z, ev_rng z → ev_w X M d (pc + 1) lv (.int (Int32.ofInt z) :: st) S (J z) enc P) : ev_w X M d pc lv (.int (Int32.ofInt y) :: .int (Int32.ofInt x) :: st) S (ev_b (ev_iand x y) J) enc P := ev_r_bin hi rfl hw
theorem ev_r_ior {J : Int → Option (β × ev_St)} {x y : Int} (hi : M.1 pc = some (.ior, 1)) (hw : ∀ z, ev_rng z → ev_w X M d (pc + 1) lv (.int (Int32.ofInt z) :: st) S (J z) enc P) : ev_w X M d pc lv (.int (Int32.ofInt y) :: .int (Int32.ofInt x) :: st) S (ev_b (ev_ior x y) J) enc P := ev_r_bin hi rfl hw
theorem ev_r_ixor {J : Int → Option (β × ev_St)} {x y : Int} (hi : M.1 pc = some (.ixor, 1)) (hw : ∀ z, ev_rng z → ev_w X M d (pc + 1) lv (.int (Int32.ofInt z) :: st) S (J z) enc P) : ev_w X M d pc lv (.int (Int32.ofInt y) :: .int (Int32.ofInt x) :: st) S (ev_b (ev_ixor x y) J) enc P := ev_r_bin hi rfl hw
theorem ev_r_ishl {J : Int → Option (β × ev_St)} {x y : Int} (hi : M.1 pc = some (.ishl, 1)) (hw : ∀ z, ev_rng z → ev_w X M d (pc + 1) lv (.int (Int32.ofInt z) :: st) S (J z) enc P) : ev_w X M d pc lv (.int (Int32.ofInt y) :: .int (Int32.ofInt x) :: st) S (ev_b (ev_ishl x y) J) enc P := ev_r_bin hi rfl hw
theorem ev_r_ishr {J : Int → Option (β × ev_St)} {x y : Int} (hi : M.1 pc = some (.ishr, 1)) (hw : ∀ z, ev_rng z → ev_w X M d (pc + 1) lv (.int (Int32.ofInt z) :: st) S (J z) enc P) : ev_w X M d pc lv (.int (Int32.ofInt y) :: .int (Int32.ofInt x) :: st) S (ev_b (ev_ishr x y) J) enc P := ev_r_bin hi rfl hw
theorem ev_r_iushr {J : Int → Option (β × ev_St)} {x y : Int} (hi : M.1 pc = some (.iushr, 1)) (hw : ∀ z, ev_rng z → ev_w X M d (pc + 1) lv (.int (Int32.ofInt z) :: st) S (J z) enc P) : ev_w X M d pc lv (.int (Int32.ofInt y) :: .int (Int32.ofInt x) :: st) S (ev_b (ev_iushr x y) J) enc P := ev_r_bin hi rfl hw
/-- a check, or nothing is claimed -/
def ev_if {β : Type} (c : Prop) [Decidable c] (J : Option β) : Option β := if c then J else none
theorem ev_r_chk {J : Option (β × ev_St)} {c : Prop} [Decidable c] (hw : c → ev_w X M d pc lv st S J enc P) : ev_w X M d pc lv st S (ev_if c J) enc P := by
  unfold ev_if
  by_cases h : c
  · rw [if_pos h]; exact hw h
  · rw [if_neg h]; exact ev_w_none
theorem ev_oi_ne0 {y : Int} (hy : ev_rng y) (h : y ≠ 0) : ¬ Int32.ofInt y = 0 := fun e => h (by
  have := congrArg Int32.toInt e
  rw [ev_oi hy] at this
  exact this)
theorem ev_r_idiv {J : Int → Option (β × ev_St)} {x y : Int} (hy : ev_rng y) (hi : M.1 pc = some (.idiv, 1)) (hw : ∀ z, ev_rng z → ev_w X M d (pc + 1) lv (.int (Int32.ofInt z) :: st) S (J z) enc P) : ev_w X M d pc lv (.int (Int32.ofInt y) :: .int (Int32.ofInt x) :: st) S (ev_if (y ≠ 0) (ev_b (ev_idiv x y) J)) enc P :=
  ev_r_chk (fun h => ev_r_bin hi (by
    show (match decide (Int32.ofInt y = 0) with
      | true => none
      | false => some (pc + 1, lv, Value.int (Int32.ofInt x / Int32.ofInt y) :: st)) = _
    rw [decide_eq_false (ev_oi_ne0 hy h)]) hw)
theorem ev_r_irem {J : Int → Option (β × ev_St)} {x y : Int} (hy : ev_rng y) (hi : M.1 pc = some (.irem, 1)) (hw : ∀ z, ev_rng z → ev_w X M d (pc + 1) lv (.int (Int32.ofInt z) :: st) S (J z) enc P) : ev_w X M d pc lv (.int (Int32.ofInt y) :: .int (Int32.ofInt x) :: st) S (ev_if (y ≠ 0) (ev_b (ev_irem x y) J)) enc P :=
  ev_r_chk (fun h => ev_r_bin hi (by
    show (match decide (Int32.ofInt y = 0) with
      | true => none
      | false => some (pc + 1, lv, Value.int (Int32.ofInt x - Int32.ofInt x / Int32.ofInt y * Int32.ofInt y) :: st)) = _
    rw [decide_eq_false (ev_oi_ne0 hy h)]) hw)
/-! branches -/
section EVJC
variable {a b : Int}
theorem ev_k_lt (ha : ev_rng a) (hb : ev_rng b) : ev_cmp .lt (Int32.ofInt a) (Int32.ofInt b) = decide (a < b) := by
  show decide (_ < _) = _
  rw [decide_eq_decide, Int32.lt_iff_toInt_lt, ev_oi ha, ev_oi hb]
theorem ev_k_ge (ha : ev_rng a) (hb : ev_rng b) : ev_cmp .ge (Int32.ofInt a) (Int32.ofInt b) = decide (b ≤ a) := by
  show decide (_ ≤ _) = _
  rw [decide_eq_decide, Int32.le_iff_toInt_le, ev_oi ha, ev_oi hb]
theorem ev_k_gt (ha : ev_rng a) (hb : ev_rng b) : ev_cmp .gt (Int32.ofInt a) (Int32.ofInt b) = decide (b < a) := by
  show decide (_ < _) = _
  rw [decide_eq_decide, Int32.lt_iff_toInt_lt, ev_oi ha, ev_oi hb]
theorem ev_k_le (ha : ev_rng a) (hb : ev_rng b) : ev_cmp .le (Int32.ofInt a) (Int32.ofInt b) = decide (a ≤ b) := by
  show decide (_ ≤ _) = _
  rw [decide_eq_decide, Int32.le_iff_toInt_le, ev_oi ha, ev_oi hb]
theorem ev_oi_eq (ha : ev_rng a) (hb : ev_rng b) : Int32.ofInt a = Int32.ofInt b ↔ a = b := ⟨fun e => by
  have := congrArg Int32.toInt e
  rw [ev_oi ha, ev_oi hb] at this
  exact this, fun e => by rw [e]⟩
theorem ev_k_eq (ha : ev_rng a) (hb : ev_rng b) : ev_cmp .eq (Int32.ofInt a) (Int32.ofInt b) = decide (a = b) := by
  show decide (_ = _) = _
  rw [decide_eq_decide, ev_oi_eq ha hb]
theorem ev_k_ne (ha : ev_rng a) (hb : ev_rng b) : ev_cmp .ne (Int32.ofInt a) (Int32.ofInt b) = decide (a ≠ b) := by
  show (!decide (_ = _)) = _
  rw [← decide_not, decide_eq_decide, ne_eq, ev_oi_eq ha hb]
end EVJC
theorem ev_rng0 : ev_rng 0 := ⟨by decide, by decide⟩
theorem ev_r_if {J1 J2 : Option (β × ev_St)} {q : ClassFile.Cond} {o : Int} {t : Nat} {v : Int32} {c : Prop} [Decidable c] (hi : M.1 pc = some (.ifCond q o, 3)) (hc : ev_cmp q v (Int32.ofInt 0) = decide c) (ht : ev_tg pc o = some t) (h1 : c → ev_w X M d t lv st S J1 enc P) (h2 : ¬ c → ev_w X M d (pc + 3) lv st S J2 enc P) : ev_w X M d pc lv (.int v :: st) S (if c then J1 else J2) enc P := by
  by_cases h : c
  · rw [if_pos h]
    refine ev_r_pure hi ?_ (h1 h)
    show ev_to lv st (ev_br (ev_cmp q v (Int32.ofInt 0)) pc o) = _
    rw [hc, decide_eq_true h]
    show ev_to lv st (ev_tg pc o) = _
    rw [ht]
    rfl
  · rw [if_neg h]
    refine ev_r_pure hi ?_ (h2 h)
    show ev_to lv st (ev_br (ev_cmp q v (Int32.ofInt 0)) pc o) = _
    rw [hc, decide_eq_false h]
    rfl
theorem ev_r_icmp {J1 J2 : Option (β × ev_St)} {q : ClassFile.Cond} {o : Int} {t : Nat} {v w : Int32} {c : Prop} [Decidable c] (hi : M.1 pc = some (.if_icmp q o, 3)) (hc : ev_cmp q v w = decide c) (ht : ev_tg pc o = some t) (h1 : c → ev_w X M d t lv st S J1 enc P) (h2 : ¬ c → ev_w X M d (pc + 3) lv st S J2 enc P) : ev_w X M d pc lv (.int w :: .int v :: st) S (if c then J1 else J2) enc P := by
  by_cases h : c
  · rw [if_pos h]
    refine ev_r_pure hi ?_ (h1 h)
    show ev_to lv st (ev_br (ev_cmp q v w) pc o) = _
    rw [hc, decide_eq_true h]
    show ev_to lv st (ev_tg pc o) = _
    rw [ht]
    rfl
  · rw [if_neg h]
    refine ev_r_pure hi ?_ (h2 h)
    show ev_to lv st (ev_br (ev_cmp q v w) pc o) = _
    rw [hc, decide_eq_false h]
    rfl
theorem ev_r_ifnull {J1 J2 : Option (β × ev_St)} {o : Int} {t r : Nat} (hi : M.1 pc = some (.ifnull o, 3)) (ht : ev_tg pc o = some t) (h1 : r = 0 → ev_w X M d t lv st S J1 enc P) (h2 : ¬ r = 0 → ev_w X M d (pc + 3) lv st S J2 enc P) : ev_w X M d pc lv (ev_nv r :: st) S (if r = 0 then J1 else J2) enc P := by
  cases r with
  | zero =>
    rw [if_pos rfl]
    refine ev_r_pure hi ?_ (h1 rfl)
    show ev_to lv st (ev_tg pc o) = _
    rw [ht]
    rfl
  | succ k =>
    rw [if_neg (by omega)]
    exact ev_r_pure hi rfl (h2 (by omega))
theorem ev_r_ifnonnull {J1 J2 : Option (β × ev_St)} {o : Int} {t r : Nat} (hi : M.1 pc = some (.ifnonnull o, 3)) (ht : ev_tg pc o = some t) (h1 : ¬ r = 0 → ev_w X M d t lv st S J1 enc P) (h2 : r = 0 → ev_w X M d (pc + 3) lv st S J2 enc P) : ev_w X M d pc lv (ev_nv r :: st) S (if r = 0 then J2 else J1) enc P := by
  cases r with
  | zero =>
    rw [if_pos rfl]
    exact ev_r_pure hi rfl (h2 rfl)
  | succ k =>
    rw [if_neg (by omega)]
    refine ev_r_pure hi ?_ (h1 (by omega))
    show ev_to lv st (ev_tg pc o) = _
    rw [ht]
    rfl
/-! ends -/
theorem ev_w_end {x : β} (hp : P x) (hn : ∀ call h n, ev_sF X call M pc lv st h n = none) (he : ∀ h n a b, ev_end ev_TXs M (d + 1) (pc, st, h, n, a, b) = some (enc x, h, n, a, b)) : ev_w X M d pc lv st S (some (x, S)) enc P := by
  intro y S' hJ h hV
  cases hJ
  refine ⟨hp, Nat.le_refl _, Nat.le_refl _, 1, h, hV, fun F f _ hf a b => ⟨(pc, st, h, ev_sN S, a, b), ?_, ?_⟩⟩
  · obtain ⟨g, rfl⟩ : ∃ g, f = g + 1 := ⟨f - 1, by omega⟩
    unfold ev_run
    rw [hn]
  · rw [he, Nat.sub_self, Nat.sub_self]
    rfl
theorem ev_r_ireturn {x : β} {v : Int32} {ty : FieldType} (hp : P x) (hi : M.1 pc = some (.ireturn, 1)) (ht : M.2.2.2.2.2.2.1 = some ty) (hv : ev_retOk ty (.int v) = true) (he : enc x = .inl (some (.int v))) : ev_w X M d pc lv [.int v] S (some (x, S)) enc P :=
  ev_w_end hp (fun call h n => by
    unfold ev_sF ev_one
    rw [hi]
    cases X <;> rfl) (fun h n a b => by
    unfold ev_end
    simp only [hi, ht, hv, he])
theorem ev_r_lreturn {x : β} {v : Int64} (hp : P x) (hi : M.1 pc = some (.lreturn, 1)) (ht : M.2.2.2.2.2.2.1 = some .long) (he : enc x = .inl (some (.long v))) : ev_w X M d pc lv [.long v] S (some (x, S)) enc P :=
  ev_w_end hp (fun call h n => by
    unfold ev_sF ev_one
    rw [hi]
    cases X <;> rfl) (fun h n a b => by
    unfold ev_end
    simp only [hi, ht, he])
theorem ev_r_areturn {x : β} {r : Nat} {C : String} (hp : P x) (hi : M.1 pc = some (.areturn, 1)) (ht : M.2.2.2.2.2.2.1 = some (.object C)) (he : enc x = .inl (some (ev_nv r))) : ev_w X M d pc lv [ev_nv r] S (some (x, S)) enc P :=
  ev_w_end hp (fun call h n => by
    unfold ev_sF ev_one
    rw [hi]
    cases X <;> cases r <;> rfl) (fun h n a b => by
    have hv : ev_retOk (.object C) (ev_nv r) = true := by cases r <;> rfl
    unfold ev_end
    simp only [hi, ht, hv, he])
theorem ev_r_return {x : β} (hp : P x) (hi : M.1 pc = some (.return_, 1)) (ht : M.2.2.2.2.2.2.1 = none) (he : enc x = .inl none) : ev_w X M d pc lv [] S (some (x, S)) enc P :=
  ev_w_end hp (fun call h n => by
    unfold ev_sF ev_one
    rw [hi]
    cases X <;> rfl) (fun h n a b => by
    unfold ev_end
    simp only [hi, ht, he])
def ev_tick (S : ev_St) : ev_St := (S.1, S.2.1, S.2.2.1, S.2.2.2.1, S.2.2.2.2.1, S.2.2.2.2.2.1 + 1, S.2.2.2.2.2.2 + 6)
theorem ev_V_tick {h : List ev_E} (hV : ev_V h S) : ev_V h (ev_tick S) := by
  obtain ⟨h1, h2, h3, h4, h5, h6⟩ := hV
  exact ⟨h1, h2, h3, fun k e hk => ev_cv_congr (fun _ => rfl) (fun _ => rfl) (fun _ => rfl) (h4 k e hk), h5, h6⟩
theorem ev_r_throw {x : β} {y : Nat} {E : String} (hp : P x) (hi : M.1 pc = some (.new y, 3)) (hy : ((ev_PEs M.2.2.1).2.1 y).isNone = true) (ht : ev_thr M ev_TXs pc y [] = some E) (hd : Nat.ble 6 (d + 1) = true) (he : enc x = .inr E) : ev_w X M d pc lv [] S (some (x, ev_tick S)) enc P := by
  intro z S' hJ h hV
  cases hJ
  refine ⟨hp, Nat.le_succ _, Nat.le_add_right _ _, 1, h, ev_V_tick hV, fun F f _ hf a b => ⟨(pc, [], h, ev_sN S, a, b), ?_, ?_⟩⟩
  · obtain ⟨g, rfl⟩ : ∃ g, f = g + 1 := ⟨f - 1, by omega⟩
    have hy' : (ev_PEs M.2.2.1).2.1 y = none := Option.isNone_iff_eq_none.mp hy
    have e0 : ev_mem ev_CN ev_ft ev_nf (ev_PEs M.2.2.1) M.2.2.2.1 (.new y) 3 pc [] h (ev_sN S) = none := by
      show (match (ev_PEs M.2.2.1).2.1 y with
        | some ci => ev_new pc 3 [] h (ev_sN S) (.inr (ci, (List.range (ev_nf ci)).map (fun k => defaultValue (ev_ft ci k)))) (ev_nf ci)
        | none => none) = _
      rw [hy']
    have e1 : ev_sF X (ev_cF F d) M pc lv [] h (ev_sN S) = none := by
      unfold ev_sF ev_one
      rw [hi]
      show (match ev_mem ev_CN ev_ft ev_nf (ev_PEs M.2.2.1) M.2.2.2.1 (.new y) 3 pc [] h (ev_sN S) with
        | some (pc', st', h', n', dc, ds) => some (pc', lv, st', h', n', dc, ds)
        | none => (match ev_ctl ev_P ev_Lk M (ev_cF F d) (.new y) 3 pc lv [] h (ev_sN S) with
          | some z => some z
          | none => ev_scr X (.new y) 3 pc lv [] h (ev_sN S))) = none
      rw [e0]
      cases X <;> rfl
    unfold ev_run
    rw [e1]
  · unfold ev_end
    simp only [hi, ht, hd, he]
    have c1 : ev_sC (ev_tick S) - ev_sC S = 1 := Nat.add_sub_cancel_left _ _
    have c2 : ev_sZ (ev_tick S) - ev_sZ S = 6 := Nat.add_sub_cancel_left _ _
    rw [c1, c2]
    rfl
/-! joins -/
def ev_jn {γ δ : Type} (t : γ) (f : γ → δ) : δ := f t
theorem ev_r_jn {t : γ} {f : γ → Option (β × ev_St)} (Q : γ → Prop) (ht : Q t) (hf : ∀ K, Q K → ev_w X M d pc lv st S (f K) enc P) : ev_w X M d pc lv st S (ev_jn t f) enc P := hf t ht
end EVJ
