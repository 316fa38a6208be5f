/-! WHAT TOUCHES CELLS -/
def ev_fit : FieldType → Value → Bool
  | .int, .int _ => true
  | .long, .long _ => true
  | .boolean, .int x => decide (x &&& 1 = x)
  | .object _, .ref _ => true
  | .object _, .null => true
  | .array _, .ref _ => true
  | .array _, .null => true
  | _, _ => false
/-- in the range of an array's places -/
def ev_in (i : Int32) (n : Nat) : Bool := !(decide (i < 0)) && Nat.blt i.toNatClampNeg n
def ev_cpy (d : Value) (l0 l1 : List (Nat × Value)) (sp dp n : Nat) : List (Nat × Value) := (List.range n).map (fun t => (dp + t, ev_rd d l0 (sp + t))) ++ l1
/-- tables of a class file's constant pool: fields (class, field, 0 not final, 1 final and declared here, 2 final elsewhere), classes that are made, component types of arrays that are made, constants -/
abbrev ev_T : Type := (Nat → Option (Nat × Nat × Nat)) × (Nat → Option Nat) × (Nat → Option FieldType) × (Nat → Option Value)
/-- the result: the next place, the stack, the cells, how many there are, how many are new, with how many slots -/
abbrev ev_O : Type := Nat × List Value × List ev_E × Nat × Nat × Nat
def ev_new (pc len : Nat) (r : List Value) (h : List ev_E) (n : Nat) (x : ev_E) (z : Nat) : Option ev_O := some (pc + len, .ref n :: r, h ++ [x], n + 1, 1, z)
def ev_get (pc : Nat) (r : List Value) (h : List ev_E) (n ci f : Nat) : Option ev_E → Option ev_O
  | some (.inr (c, fs)) => (match Nat.beq c ci with
    | true => (match fs[f]? with
      | some v => some (pc + 3, v :: r, h, n, 0, 0)
      | none => none)
    | false => none)
  | _ => none
def ev_put (ft : Nat → Nat → FieldType) (pc : Nat) (r : List Value) (h : List ev_E) (n ci f k : Nat) (v : Value) : Option ev_E → Option ev_O
  | some (.inr (c, fs)) => (match Nat.beq c ci && (ev_fit (ft ci f) v && Nat.blt f fs.length) with
    | true => some (pc + 3, r, h.set k (.inr (c, fs.set f v)), n, 0, 0)
    | false => none)
  | _ => none
def ev_el (long isRef : Bool) (l : List (Nat × Value)) (j : Nat) : Value := match isRef with
  | true => ev_ref (ev_rd .null l j)
  | false => (match long with
    | true => .long (ev_long (ev_rd (.long 0) l j))
    | false => .int (ev_int (ev_rd (.int 0) l j)))
def ev_ald (long isRef : Bool) (ts : List FieldType) (pc : Nat) (r : List Value) (h : List ev_E) (n : Nat) (i : Int32) : Option ev_E → Option ev_O
  | some (.inl (ty, N, l)) => (match ev_in i N && decide (ty ∈ ts) with
    | true => some (pc + 1, ev_el long isRef l i.toNatClampNeg :: r, h, n, 0, 0)
    | false => none)
  | _ => none
def ev_ast (ts : List FieldType) (pc : Nat) (r : List Value) (h : List ev_E) (n k : Nat) (i : Int32) (v : Value) : Option ev_E → Option ev_O
  | some (.inl (ty, N, l)) => (match ev_in i N && decide (ty ∈ ts) with
    | true => some (pc + 1, r, h.set k (.inl (ty, N, (i.toNatClampNeg, narrow ty v) :: l)), n, 0, 0)
    | false => none)
  | _ => none
/-- whether a reference may be stored in an array of this component type -/
def ev_asg (cn : Nat → String) (ty : FieldType) : Option ev_E → Bool
  | some (.inr (ci, _)) => decide (ty = .object (cn ci))
  | some (.inl (t, _, _)) => decide (ty = .array t)
  | none => false
def ev_len (pc : Nat) (r : List Value) (h : List ev_E) (n : Nat) : Option ev_E → Option ev_O
  | some (.inl (_, N, _)) => some (pc + 1, .int (Int32.ofNat N) :: r, h, n, 0, 0)
  | _ => none
def ev_newa (ty : FieldType) (pc len : Nat) (r : List Value) (h : List ev_E) (n : Nat) (x : Int32) : Option ev_O := match !(decide (x < 0)) && Nat.ble (x.toNatClampNeg * componentBytes ty) 536870912 with
  | true => ev_new pc len r h n (.inl (ty, x.toNatClampNeg, [])) x.toNatClampNeg
  | false => none
/-- rows of ints: an array of y arrays of z ints each -/
def ev_rows (n y z : Nat) : List ev_E := .inl (.array .int, y, (List.range y).map (fun j => (j, .ref (n + 1 + j)))) :: List.replicate y (.inl (.int, z, []))
def ev_mna (pc : Nat) (r : List Value) (h : List ev_E) (n : Nat) (y z : Int32) : Option ev_O := match !(decide (y < 0)) && (!(decide (z < 0)) && (Nat.ble (y.toNatClampNeg * 4) 536870912 && Nat.ble (z.toNatClampNeg * 4) 536870912)) with
  | true => some (pc + 4, .ref n :: r, h ++ ev_rows n y.toNatClampNeg z.toNatClampNeg, n + (1 + y.toNatClampNeg), 1 + y.toNatClampNeg, y.toNatClampNeg + y.toNatClampNeg * z.toNatClampNeg)
  | false => none
def ev_cst (len k pc : Nat) (st : List Value) (h : List ev_E) (n : Nat) (isLong : Bool) : Option Value → Option ev_O
  | some (.int v) => (match isLong with | true => none | false => ev_g len k (some (pc + k, .int v :: st, h, n, 0, 0)))
  | some (.long v) => (match isLong with | true => ev_g len k (some (pc + k, .long v :: st, h, n, 0, 0)) | false => none)
  | _ => none
def ev_fld (ft : Nat → Nat → FieldType) (ini : Bool) (pc : Nat) (st : List Value) (h : List ev_E) (n : Nat) (isPut : Bool) : Option (Nat × Nat × Nat) → Option ev_O
  | some (ci, f, fin) => (match isPut with
    | false => (match st with
      | .ref k :: r => ev_get pc r h n ci f h[k]?
      | _ => none)
    | true => (match Nat.beq fin 0 || (Nat.beq fin 1 && ini) with
      | true => (match st with
        | v :: .ref k :: r => ev_put ft pc r h n ci f k v h[k]?
        | _ => none)
      | false => none))
  | none => none
def ev_mem (cn : Nat → String) (ft : Nat → Nat → FieldType) (nf : Nat → Nat) (E : ev_T) (ini : Bool) (i : Instr) (len pc : Nat) (st : List Value) (h : List ev_E) (n : Nat) : Option ev_O := match i with
  | .ldc x => ev_cst len 2 pc st h n false (E.2.2.2 x)
  | .ldc_w x => ev_cst len 3 pc st h n false (E.2.2.2 x)
  | .ldc2_w x => ev_cst len 3 pc st h n true (E.2.2.2 x)
  | .getfield x => ev_g len 3 (ev_fld ft ini pc st h n false (E.1 x))
  | .putfield x => ev_g len 3 (ev_fld ft ini pc st h n true (E.1 x))
  | .iaload => ev_g len 1 (match st with
    | .int x :: .ref k :: r => ev_ald false false [.int] pc r h n x h[k]?
    | _ => none)
  | .baload => ev_g len 1 (match st with
    | .int x :: .ref k :: r => ev_ald false false [.byte, .boolean] pc r h n x h[k]?
    | _ => none)
  | .laload => ev_g len 1 (match st with
    | .int x :: .ref k :: r => ev_ald true false [.long] pc r h n x h[k]?
    | _ => none)
  | .aaload => ev_g len 1 (match st with
    | .int x :: .ref k :: r => (match h[k]? with
      | some (.inl (.object C, N, l)) => ev_ald false true [.object C] pc r h n x (some (.inl (.object C, N, l)))
      | some (.inl (.array t, N, l)) => ev_ald false true [.array t] pc r h n x (some (.inl (.array t, N, l)))
      | _ => none)
    | _ => none)
  | .iastore => ev_g len 1 (match st with
    | .int v :: .int x :: .ref k :: r => ev_ast [.int] pc r h n k x (.int v) h[k]?
    | _ => none)
  | .bastore => ev_g len 1 (match st with
    | .int v :: .int x :: .ref k :: r => ev_ast [.byte, .boolean] pc r h n k x (.int v) h[k]?
    | _ => none)
  | .lastore => ev_g len 1 (match st with
    | .long v :: .int x :: .ref k :: r => ev_ast [.long] pc r h n k x (.long v) h[k]?
    | _ => none)
  | .aastore => ev_g len 1 (match st with
    | .ref j :: .int x :: .ref k :: r => (match h[k]? with
      | some (.inl (ty, N, l)) => (match ev_asg cn ty h[j]? with
        | true => ev_ast [ty] pc r h n k x (.ref j) (some (.inl (ty, N, l)))
        | false => none)
      | _ => none)
    | _ => none)
  | .arraylength => ev_g len 1 (match st with
    | .ref k :: r => ev_len pc r h n h[k]?
    | _ => none)
  | .newarray t => ev_g len 2 (match st with
    | .int x :: r => (match decide (newarray.typeOf t ∈ [FieldType.int, .long, .byte, .boolean]) with
      | true => ev_newa (newarray.typeOf t) pc 2 r h n x
      | false => none)
    | _ => none)
  | .anewarray x => ev_g len 3 (match st with
    | .int y :: r => (match E.2.2.1 x with
      | some ty => (match ty with
        | .object _ => ev_newa ty pc 3 r h n y
        | .array (.array _) => none
        | .array _ => ev_newa ty pc 3 r h n y
        | _ => none)
      | none => none)
    | _ => none)
  | .multianewarray x d => ev_g len 4 (match Nat.beq d 2 with
    | true => (match st with
      | .int z :: .int y :: r => (match E.2.2.1 x with
        | some (.array (.array .int)) => ev_mna pc r h n y z
        | _ => none)
      | _ => none)
    | false => none)
  | .new x => ev_g len 3 (match E.2.1 x with
    | some ci => ev_new pc 3 st h n (.inr (ci, (List.range (nf ci)).map (fun k => defaultValue (ft ci k)))) (nf ci)
    | none => none)
  | _ => none
