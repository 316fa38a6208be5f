/-! CALLS AND RUNS -/
/-- a method: its instructions, its locals, its class, whether it is a constructor, whether it is static, how many arguments it has, what it answers, its handlers (from, to, where to, its place in the pool; its name) -/
abbrev ev_M : Type := (Nat → Option (Instr × Nat)) × Nat × Nat × Bool × Bool × Nat × Option FieldType × List ((Nat × Nat × Nat × Nat) × String)
/-- where a call's outcome stands: what is answered, or the class of what is thrown; the cells, how many, how many are new, with how many slots -/
abbrev ev_Z : Type := (Option Value ⊕ String) × List ev_E × Nat × Nat × Nat
/-- what an invoke links: how (0 virtual, 1 a constructor, 2 static, 3 to 5 the same of a nest mate, 6 Object's constructor, 7 arraycopy, 8 static with handlers, 9 Math.min, 10 Math.max), the method, how many arguments -/
abbrev ev_L : Type := Nat × Nat × Nat
def ev_pop : Nat → List Value → List Value → Option (List Value × List Value)
  | 0, acc, st => some (acc, st)
  | _ + 1, _, [] => none
  | n + 1, acc, v :: st => ev_pop n (v :: acc) st
def ev_sum : List Value → Nat
  | [] => 0
  | v :: l => v.category + ev_sum l
def ev_hd (E : String) (pc : Nat) : List ((Nat × Nat × Nat × Nat) × String) → Option Nat
  | [] => none
  | q :: l => match Nat.ble q.1.1 pc && Nat.blt pc q.1.2.1 && decide (q.2 = E) with
    | true => some q.1.2.2.1
    | false => ev_hd E pc l
abbrev ev_S : Type := Nat × List (Nat × Value) × List Value × List ev_E × Nat × Nat × Nat
def ev_back (M : ev_M) (pc : Nat) (lv : List (Nat × Value)) (rest : List Value) : Option ev_Z → Option ev_S
  | some (.inl (some v), h, n, dc, ds) => some (pc + 3, lv, v :: rest, h, n, dc, ds)
  | some (.inl none, h, n, dc, ds) => some (pc + 3, lv, rest, h, n, dc, ds)
  | some (.inr E, h, n, dc, ds) => (match ev_hd E pc M.2.2.2.2.2.2.2 with
    | some t => some (t, lv, [.retAddr 1], h, n, dc, ds)
    | none => none)
  | none => none
def ev_isOf (ci : Nat) : Option ev_E → Bool
  | some (.inr (c, _)) => Nat.beq c ci
  | _ => false
/-- whether what lies under the arguments is an object of the method's class -/
def ev_recv (h : List ev_E) (ci : Nat) : List Value → Bool
  | .ref k :: _ => ev_isOf ci h[k]?
  | _ => false
def ev_arr (ty : FieldType) (d : Value) (k0 k1 sp dp n : Nat) (h : List ev_E) : Option ev_E → Option ev_E → Option (List ev_E)
  | some (.inl (t0, n0, l0)), some (.inl (t1, n1, l1)) => (match decide (t0 = ty) && decide (t1 = ty) && (Nat.ble (sp + n) n0 && Nat.ble (dp + n) n1) with
    | true => some (h.set k1 (.inl (ty, n1, ev_cpy d l0 l1 sp dp n)))
    | false => none)
  | _, _ => none
def ev_isInt : Option ev_E → Bool
  | some (.inl (.int, _, _)) => true
  | _ => false
def ev_copy (pc : Nat) (lv : List (Nat × Value)) (h : List ev_E) (n : Nat) : List Value → Option ev_S
  | .int z :: .int dp :: .ref k1 :: .int sp :: .ref k0 :: r => (match !(decide (sp < 0)) && !(decide (dp < 0)) && (!(decide (z < 0)) && Nat.ble (ev_sum r) 8) with
    | true => (match (match ev_isInt h[k0]? with
        | true => ev_arr .int (.int 0) k0 k1 sp.toNatClampNeg dp.toNatClampNeg z.toNatClampNeg h h[k0]? h[k1]?
        | false => ev_arr .long (.long 0) k0 k1 sp.toNatClampNeg dp.toNatClampNeg z.toNatClampNeg h h[k0]? h[k1]?) with
      | some h' => some (pc + 3, lv, r, h', n, 0, 0)
      | none => none)
    | false => none)
  | _ => none
def ev_mm (isMin : Bool) (x y : Int32) : Int32 := match isMin with
  | true => if y < x then y else x
  | false => if x < y then y else x
/-- a throw is told of virtual calls alone -/
def ev_ansOf : Bool → Option ev_Z → Option ev_Z
  | true, z => z
  | false, some (.inl v, r) => some (.inl v, r)
  | false, _ => none
def ev_inv (P : Nat → Option ev_M) (M : ev_M) (call : Nat → List Value → List ev_E → Nat → Option ev_Z) (pc : Nat) (lv : List (Nat × Value)) (st : List Value) (h : List ev_E) (n : Nat) (op : Nat) : Option ev_L → Option ev_S
  | some (kind, mi, na) => (match Nat.beq kind 6 with
    | true => (match Nat.beq op 1 with
      | true => (match st with
        | .ref _ :: r => (match Nat.ble (ev_sum r) 8 with
          | true => some (pc + 3, lv, r, h, n, 0, 0)
          | false => none)
        | _ => none)
      | false => none)
    | false => (match Nat.beq kind 7 with
      | true => (match Nat.beq op 2 with
        | true => ev_copy pc lv h n st
        | false => none)
      | false => (match Nat.beq kind 9 || Nat.beq kind 10 with
       | true => (match Nat.beq op 2 with
        | true => (match st with
          | .int y :: .int x :: r => (match Nat.ble (ev_sum r) 8 with
            | true => some (pc + 3, lv, .int (ev_mm (Nat.beq kind 9) x y) :: r, h, n, 0, 0)
            | false => none)
          | _ => none)
        | false => none)
       | false => (match P mi with
        | some Y => (match Nat.beq na Y.2.2.2.2.2.1 && Nat.beq op (kind % 3) with
          | true => (match Nat.beq op 2 with
            | true => (match ev_pop na [] st with
              | some (as, rest) => (match Nat.ble (ev_sum rest) 8 with
                | true => ev_back M pc lv rest (ev_ansOf (Nat.beq kind 0) (call mi as h n))
                | false => none)
              | none => none)
            | false => (match ev_pop (na + 1) [] st with
              | some (as, rest) => (match Nat.ble (ev_sum rest) 8 && ev_recv h Y.2.2.1 as with
                | true => ev_back M pc lv rest (ev_ansOf (Nat.beq kind 0) (call mi as h n))
                | false => none)
              | none => none))
          | false => none)
        | none => none))))
  | none => none
def ev_ctl (P : Nat → Option ev_M) (L : Nat → Nat → Option ev_L) (M : ev_M) (call : Nat → List Value → List ev_E → Nat → Option ev_Z) (i : Instr) (len pc : Nat) (lv : List (Nat × Value)) (st : List Value) (h : List ev_E) (n : Nat) : Option ev_S := match i with
  | .invokevirtual x => ev_g len 3 (ev_inv P M call pc lv st h n 0 (L M.2.2.1 x))
  | .invokespecial x => ev_g len 3 (ev_inv P M call pc lv st h n 1 (L M.2.2.1 x))
  | .invokestatic x => ev_g len 3 (ev_inv P M call pc lv st h n 2 (L M.2.2.1 x))
  | _ => none
/-- the script: how many ints, and which -/
abbrev ev_X : Type := Option (Nat × (Nat → Int32))
def ev_scr (X : ev_X) (i : Instr) (len pc : Nat) (lv : List (Nat × Value)) (st : List Value) (h : List ev_E) (n : Nat) : Option ev_S := match X with
  | none => none
  | some (N, xs) => (match i with
    | .arraylength => ev_g len 1 (match st with
      | .retAddr 0 :: r => some (pc + 1, lv, .int (Int32.ofNat N) :: r, h, n, 0, 0)
      | _ => none)
    | .iaload => ev_g len 1 (match st with
      | .int x :: .retAddr 0 :: r => (match ev_in x N with
        | true => some (pc + 1, lv, .int (xs x.toNatClampNeg) :: r, h, n, 0, 0)
        | false => none)
      | _ => none)
    | _ => none)
/-- a step; none where the method ends (or the evaluator has no word for it) -/
def ev_one (cn : Nat → String) (ft : Nat → Nat → FieldType) (nf : Nat → Nat) (PE : Nat → ev_T) (L : Nat → Nat → Option ev_L) (P : Nat → Option ev_M) (X : ev_X) (M : ev_M) (call : Nat → List Value → List ev_E → Nat → Option ev_Z) (pc : Nat) (lv : List (Nat × Value)) (st : List Value) (h : List ev_E) (n : Nat) : Option ev_S := match M.1 pc with
  | none => none
  | some (i, len) => (match ev_pure M.2.1 i len pc lv st with
    | some (pc', lv', st') => some (pc', lv', st', h, n, 0, 0)
    | none => (match ev_mem cn ft nf (PE M.2.2.1) M.2.2.2.1 i len pc st h n with
      | some (pc', st', h', n', dc, ds) => some (pc', lv, st', h', n', dc, ds)
      | none => (match ev_ctl P L M call i len pc lv st h n with
        | some z => some z
        | none => ev_scr X i len pc lv st h n)))
/-- where a run stands when no step is left: place, stack, cells -/
abbrev ev_R : Type := Nat × List Value × List ev_E × Nat × Nat × Nat
def ev_run (step : Nat → List (Nat × Value) → List Value → List ev_E → Nat → Option ev_S) : Nat → Nat → List (Nat × Value) → List Value → List ev_E → Nat → Nat → Nat → Option ev_R
  | 0, _, _, _, _, _, _, _ => none
  | f + 1, pc, lv, st, h, n, nc, ns => match step pc lv st h n with
    | some (pc', lv', st', h', n', dc, ds) => ev_run step f pc' lv' st' h' n' (nc + dc) (ns + ds)
    | none => some (pc, st, h, n, nc, ns)
/-- the text's place, and how long its load is -/
def ev_ldc : Option (Instr × Nat) → Option (Nat × Nat)
  | some (.ldc is, 2) => some (is, 2)
  | some (.ldc_w is, 3) => some (is, 3)
  | _ => none
/-- a throw: new, dup, ldc or ldc_w, invokespecial, athrow -/
def ev_thr (M : ev_M) (TX : Nat → Nat → Nat → Option (String × Nat × String)) (pc x : Nat) (st : List Value) : Option String := match ev_ldc (M.1 (pc + 4)) with
  | some (is, z) => (match TX M.2.2.1 x is with
    | some (E, ic, _) => (match st, M.2.2.2.2.2.2.2 with
      | [], [] => (match decide (M.1 (pc + 3) = some (.dup, 1)) && (decide (M.1 (pc + 4 + z) = some (.invokespecial ic, 3)) && decide (M.1 (pc + 7 + z) = some (.athrow, 1))) with
        | true => some E
        | false => none)
      | _, _ => none)
    | none => none)
  | none => none
def ev_retOk : FieldType → Value → Bool
  | .int, .int _ => true
  | .boolean, .int x => decide (x &&& 1 = x)
  | .char, .int x => decide (x.toUInt32.toUInt16.toUInt32.toInt32 = x)
  | .long, .long _ => true
  | .object _, .ref _ => true
  | .object _, .null => true
  | _, _ => false
/-- how a method ends -/
def ev_end (TX : Nat → Nat → Nat → Option (String × Nat × String)) (M : ev_M) (d : Nat) : ev_R → Option ev_Z
  | (pc, st, h, n, nc, ns) => match M.1 pc with
    | some (.return_, 1) => (match st with
      | [] => (match M.2.2.2.2.2.2.1 with
        | none => some (.inl none, h, n, nc, ns)
        | some _ => none)
      | _ => none)
    | some (.ireturn, 1) => (match st, M.2.2.2.2.2.2.1 with
      | [.int v], some ty => (match ev_retOk ty (.int v) with
        | true => some (.inl (some (.int v)), h, n, nc, ns)
        | false => none)
      | _, _ => none)
    | some (.lreturn, 1) => (match st, M.2.2.2.2.2.2.1 with
      | [.long v], some .long => some (.inl (some (.long v)), h, n, nc, ns)
      | _, _ => none)
    | some (.areturn, 1) => (match st, M.2.2.2.2.2.2.1 with
      | [v], some (.object C) => (match ev_retOk (.object C) v with
        | true => some (.inl (some v), h, n, nc, ns)
        | false => none)
      | _, _ => none)
    | some (.new x, 3) => (match ev_thr M TX pc x st with
      | some E => (match Nat.ble 6 d with
        | true => some (.inr E, h, n, nc + 1, ns + 6)
        | false => none)
      | none => none)
    | _ => none
/-- a call, so many deep at most -/
def ev_call (cn : Nat → String) (ft : Nat → Nat → FieldType) (nf : Nat → Nat) (PE : Nat → ev_T) (L : Nat → Nat → Option ev_L) (TX : Nat → Nat → Nat → Option (String × Nat × String)) (P : Nat → Option ev_M) (F : Nat) : Nat → Nat → List Value → List ev_E → Nat → Option ev_Z
  | 0, _, _, _, _ => none
  | d + 1, mi, as, h, n => match P mi with
    | some M => (match Nat.ble (ev_sum as) M.2.1 with
      | true => (match ev_run (ev_one cn ft nf PE L P none M (ev_call cn ft nf PE L TX P F d)) F 0 (lv_args 0 as) [] h n 0 0 with
        | some r => ev_end TX M (d + 1) r
        | none => none)
      | false => none)
    | none => none
