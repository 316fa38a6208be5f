/-! ENGINES: trying back with a memory comes to the same as threads -/
section OQO
abbrev VSs : Type := Nat → SNs
abbrev RSs : Type := Option (Nat × CPs) × VSs
variable {P : Nat → T3} {E : Nat → Int → Bool} {X : Nat → SNs} {E1 : Int → Bool} {X1 lv : SNs} {n f k m pc i j r : Nat} {c c2 : CPs} {A A2 B : SNs} {ls ls2 rs rs2 : LFs} {V W : VSs} {nx : Nat → CPs → VSs → RSs} {ms : Bool}
theorem flt_t : ∀ ls : LFs, flt (fun _ => true) ls = ls := fun ls => by
  induction ls with
  | nil => rfl
  | cons x ls ih =>
    unfold flt
    rw [if_pos rfl, ih]
/-- where the threads that lead to nothing are left out -/
def lvX (P : Nat → T3) (n : Nat) (X : Nat → SNs) (lv : SNs) : Prop := ∀ k i, i < n → (P i).1 = 0 → X k i = true → lv i = lv (i + 1)
theorem cut_flt : ∀ ls : LFs, (∀ x, x ∈ ls → x.1 < n ∧ ((P x.1).1 = 0 ∨ (P x.1).1 = 5)) → lvP P n lv → lvX P n X lv → (cut P (flt lv ls)).2 = (cut P ls).2 ∧ (cut P (flt lv ls)).1 = flt lv (cut P ls).1 ∧ suc (X k) (flt lv (cut P ls).1) = flt lv (suc (X k) (cut P ls).1) := fun ls => by
  induction ls with
  | nil => exact fun _ _ _ => ⟨rfl, rfl, rfl⟩
  | cons x ls ih =>
    intro h hl hX
    obtain ⟨i1, i2, i3⟩ := ih (fun y hy => h y (List.mem_cons_of_mem _ hy)) hl hX
    obtain ⟨h1, h2⟩ := h x (List.mem_cons_self ..)
    by_cases o5 : (P x.1).1 = 5
    · have l5 := (hl x.1 h1).2.2.2 o5
      have e1 : flt lv (x :: ls) = x :: flt lv ls := if_pos l5
      have e2 : cut P (x :: ls) = ([], some x.2) := if_pos o5
      have e3 : cut P (x :: flt lv ls) = ([], some x.2) := if_pos o5
      rw [e1, e2, e3]
      exact ⟨rfl, rfl, rfl⟩
    · have e2 : cut P (x :: ls) = (x :: (cut P ls).1, (cut P ls).2) := if_neg o5
      rw [e2]
      by_cases z : lv x.1 = true
      · have e1 : flt lv (x :: ls) = x :: flt lv ls := if_pos z
        have e3 : cut P (x :: flt lv ls) = (x :: (cut P (flt lv ls)).1, (cut P (flt lv ls)).2) := if_neg o5
        rw [e1, e3, i1, i2]
        have e4 : flt lv (x :: (cut P ls).1) = x :: flt lv (cut P ls).1 := if_pos z
        show (cut P ls).2 = (cut P ls).2 ∧ x :: flt lv (cut P ls).1 = flt lv (x :: (cut P ls).1) ∧ suc (X k) (flt lv (x :: (cut P ls).1)) = _
        rw [e4]
        refine ⟨rfl, rfl, ?_⟩
        show suc (X k) (x :: flt lv (cut P ls).1) = flt lv (suc (X k) (x :: (cut P ls).1))
        unfold suc
        by_cases q : X k x.1 = true
        · rw [if_pos q, if_pos q, i3]
          have lx := hX k x.1 h1 (by omega) q
          have e5 : flt lv ((x.1 + 1, x.2) :: suc (X k) (cut P ls).1) = (x.1 + 1, x.2) :: flt lv (suc (X k) (cut P ls).1) := if_pos (by
            show lv (x.1 + 1) = true
            rw [← lx]
            exact z)
          rw [e5]
        · rw [if_neg q, if_neg q, i3]
      · have e1 : flt lv (x :: ls) = flt lv ls := if_neg z
        have e4 : flt lv (x :: (cut P ls).1) = flt lv (cut P ls).1 := if_neg z
        rw [e1]
        show (cut P (flt lv ls)).2 = (cut P ls).2 ∧ (cut P (flt lv ls)).1 = flt lv (x :: (cut P ls).1) ∧ suc (X k) (flt lv (x :: (cut P ls).1)) = flt lv (suc (X k) (x :: (cut P ls).1))
        rw [e4]
        refine ⟨i1, i2, ?_⟩
        rw [i3]
        show _ = flt lv (if X k x.1 = true then (x.1 + 1, x.2) :: suc (X k) (cut P ls).1 else suc (X k) (cut P ls).1)
        by_cases q : X k x.1 = true
        · have lx := hX k x.1 h1 (by omega) q
          rw [if_pos q]
          have e5 : flt lv ((x.1 + 1, x.2) :: suc (X k) (cut P ls).1) = flt lv (suc (X k) (cut P ls).1) := if_neg (by
            show ¬ lv (x.1 + 1) = true
            rw [← lx]
            exact z)
          rw [e5]
        · rw [if_neg q]
/-- roots past a character stand within -/
theorem suc_n (hw : wfP P n) (h : ∀ x, x ∈ ls → x.1 < n ∧ ((P x.1).1 = 0 ∨ (P x.1).1 = 5)) : ∀ x, x ∈ suc X1 (cut P ls).1 → x.1 < n := by
  induction ls with
  | nil => exact fun x hx => by cases hx
  | cons y ls ih =>
    have i := ih (fun x hx => h x (List.mem_cons_of_mem _ hx))
    obtain ⟨h1, h2⟩ := h y (List.mem_cons_self ..)
    intro x hx
    by_cases o5 : (P y.1).1 = 5
    · have e2 : cut P (y :: ls) = ([], some y.2) := if_pos o5
      rw [e2] at hx
      cases hx
    · have e2 : cut P (y :: ls) = (y :: (cut P ls).1, (cut P ls).2) := if_neg o5
      rw [e2] at hx
      have w1 : y.1 + 1 < n := by
        rcases hw y.1 h1 with q | q | q | q | q | q <;> omega
      unfold suc at hx
      by_cases q : X1 y.1 = true
      · rw [if_pos q] at hx
        rcases List.mem_cons.mp hx with z | z
        · rw [z]
          exact w1
        · exact i x z
      · rw [if_neg q] at hx
        exact i x hx
theorem rts_n (h0 : 0 < n) (h : ∀ x, x ∈ rs → x.1 < n) : ∀ x, x ∈ rts k rs ms → x.1 < n := fun x hx => by
  unfold rts at hx
  by_cases z : ms = true
  · rw [if_pos z] at hx
    rcases List.mem_append.mp hx with y | y
    · exact h x y
    · have e : x = (0, c0 k) := by simpa using y
      rw [e]
      exact h0
  · rw [if_neg z] at hx
    exact h x hx
/-- a thread that leads to nothing tells nothing -/
theorem PK_live (hw : wfP P n) (h0 : 0 < n) (hl : lvP P n lv) (hX : lvX P n X lv) : ∀ r k rs rs2 ms, (∀ x, x ∈ rs → x.1 < n) → (∀ x, x ∈ rs2 → x.1 < n) → flt lv rs = flt lv rs2 → PK P n E X lv r k rs2 ms = PK P n E X (fun _ => true) r k rs ms := fun r => by
  have base : ∀ k rs rs2 ms, (∀ x, x ∈ rs → x.1 < n) → (∀ x, x ∈ rs2 → x.1 < n) → flt lv rs = flt lv rs2 → (cut P (flt lv (dfsL P (E k) k n (rts k rs2 ms) (fun _ => false)).1)).2 = (cut P (dfsL P (E k) k n (rts k rs ms) (fun _ => false)).1).2 ∧ suc (X k) (cut P (flt lv (dfsL P (E k) k n (rts k rs2 ms) (fun _ => false)).1)).1 = flt lv (suc (X k) (cut P (dfsL P (E k) k n (rts k rs ms) (fun _ => false)).1).1) ∧ (∀ x, x ∈ suc (X k) (cut P (dfsL P (E k) k n (rts k rs ms) (fun _ => false)).1).1 → x.1 < n) ∧ ∀ x, x ∈ suc (X k) (cut P (flt lv (dfsL P (E k) k n (rts k rs2 ms) (fun _ => false)).1)).1 → x.1 < n := fun k rs rs2 ms h1 h2 hf => by
    have f2 : flt lv (rts k rs ms) = flt lv (rts k rs2 ms) := by
      unfold rts
      by_cases z : ms = true
      · rw [if_pos z, if_pos z, flt_app, flt_app, hf]
      · rw [if_neg z, if_neg z, hf]
    obtain ⟨l1, _⟩ := dfsL_live (E := E k) (k := k) hw hl (rts k rs ms) (rts k rs2 ms) (fun _ => false) (fun _ => false) (rts_n h0 h1) (rts_n h0 h2) f2 (fun _ _ => rfl)
    have m1 := (dfsL_cnf (E := E k) (k := k) hw (rts k rs ms) (fun _ => false) (rts_n h0 h1)).2
    rw [← l1]
    obtain ⟨c1, c2, c3⟩ := cut_flt (P := P) (X := X) (k := k) (dfsL P (E k) k n (rts k rs ms) (fun _ => false)).1 (fun x hx => m1 x.1 x.2 hx) hl hX
    have s1 := suc_n (X1 := X k) hw (fun x hx => m1 x.1 x.2 hx)
    refine ⟨c1, by rw [c2, c3], s1, fun x hx => ?_⟩
    rw [c2, c3] at hx
    have : ∀ l : LFs, x ∈ flt lv l → x ∈ l := fun l => by
      induction l with
      | nil => exact fun h => h
      | cons a l il =>
        intro h
        unfold flt at h
        by_cases z : lv a.1 = true
        · rw [if_pos z] at h
          rcases List.mem_cons.mp h with w | w
          · rw [w]
            exact List.mem_cons_self ..
          · exact List.mem_cons_of_mem _ (il w)
        · rw [if_neg z] at h
          exact List.mem_cons_of_mem _ (il h)
    exact s1 x (this _ hx)
  have ff : ∀ l : LFs, flt lv (flt lv l) = flt lv l := fun l => by
    induction l with
    | nil => rfl
    | cons a l il =>
      by_cases z : lv a.1 = true
      · have e : flt lv (a :: l) = a :: flt lv l := if_pos z
        have e2 : flt lv (a :: flt lv l) = a :: flt lv (flt lv l) := if_pos z
        rw [e, e2, il]
      · have e : flt lv (a :: l) = flt lv l := if_neg z
        rw [e, il]
  induction r with
  | zero =>
    intro k rs rs2 ms h1 h2 hf
    obtain ⟨b1, b2, b3⟩ := base k rs rs2 ms h1 h2 hf
    unfold PK
    rw [flt_t, b1]
  | succ r ih =>
    intro k rs rs2 ms h1 h2 hf
    obtain ⟨b1, b2, b3, b4⟩ := base k rs rs2 ms h1 h2 hf
    have q : ∀ ms, PK P n E X lv r (k + 1) (suc (X k) (cut P (flt lv (dfsL P (E k) k n (rts k rs2 ms) (fun _ => false)).1)).1) ms = PK P n E X (fun _ => true) r (k + 1) (suc (X k) (cut P (dfsL P (E k) k n (rts k rs ms) (fun _ => false)).1).1) ms := fun ms => by
      obtain ⟨b1, b2, b3, b4⟩ := base k rs rs2 ms h1 h2 hf
      exact ih (k + 1) _ _ ms b3 b4 (by rw [b2, ff])
    have q2 : PK P n E X lv r (k + 1) (suc (X k) (cut P (flt lv (dfsL P (E k) k n (rts k rs2 ms) (fun _ => false)).1)).1) false = PK P n E X (fun _ => true) r (k + 1) (suc (X k) (cut P (dfsL P (E k) k n (rts k rs ms) (fun _ => false)).1).1) false := ih (k + 1) _ _ false b3 b4 (by rw [b2, ff])
    unfold PK
    rw [flt_t, b1, q, q2]
/-- trying back, a place -/
def onV (V : VSs) (k pc : Nat) : VSs := fun j => if j = k then onB (V k) pc else V j
def rnS (P : Nat → T3) (E : Int → Bool) (X : SNs) (k : Nat) (nx : Nat → CPs → VSs → RSs) : Nat → Nat → CPs → VSs → RSs
  | 0, _, _, V => (none, V)
  | f + 1, pc, c, V => if V k pc = true then (none, V) else if (P pc).1 = 5 then (some (k, c), onV V k pc) else if (P pc).1 = 0 then (if X pc = true then nx (pc + 1) c (onV V k pc) else (none, onV V k pc)) else if (P pc).1 = 2 then (match (rnS P E X k nx f (P pc).2.1.toNat c (onV V k pc)).1 with
    | some x => (some x, (rnS P E X k nx f (P pc).2.1.toNat c (onV V k pc)).2)
    | none => rnS P E X k nx f (P pc).2.2.toNat c (rnS P E X k nx f (P pc).2.1.toNat c (onV V k pc)).2) else if (P pc).1 = 3 then rnS P E X k nx f (P pc).2.1.toNat c (onV V k pc) else if (P pc).1 = 4 then rnS P E X k nx f (pc + 1) (putC c (P pc).2.1 (k : Int)) (onV V k pc) else if E (P pc).2.1 = true then rnS P E X k nx f (pc + 1) c (onV V k pc) else (none, onV V k pc)
def rn (P : Nat → T3) (n : Nat) (E : Nat → Int → Bool) (X : Nat → SNs) : Nat → Nat → Nat → CPs → VSs → RSs
  | 0, _ => fun _ _ V => (none, V)
  | r + 1, k => rnS P (E k) (X k) k (rn P n E X r (k + 1)) n
/-- all that have come to a place go on in their order -/
def prc (P : Nat → T3) (X : SNs) (k : Nat) (nx : Nat → CPs → VSs → RSs) : LFs → VSs → RSs
  | [], V => (none, V)
  | x :: ls, V => if (P x.1).1 = 5 then (some (k, x.2), V) else if X x.1 = true then (match (nx (x.1 + 1) x.2 V).1 with
    | some y => (some y, (nx (x.1 + 1) x.2 V).2)
    | none => prc P X k nx ls (nx (x.1 + 1) x.2 V).2) else prc P X k nx ls V
def sq (nx : Nat → CPs → VSs → RSs) : LFs → VSs → RSs
  | [], V => (none, V)
  | x :: ls, V => match (nx x.1 x.2 V).1 with
    | some y => (some y, (nx x.1 x.2 V).2)
    | none => sq nx ls (nx x.1 x.2 V).2
/-- places up to k are left alone, and looked at by none -/
def NXk (k : Nat) (nx : Nat → CPs → VSs → RSs) : Prop := (∀ pc c V j, j ≤ k → (nx pc c V).2 j = V j) ∧ ∀ pc c V V2, (∀ j, k < j → V j = V2 j) → (nx pc c V).1 = (nx pc c V2).1 ∧ ∀ j, k < j → (nx pc c V).2 j = (nx pc c V2).2 j
theorem onV_k : onV V k pc k = onB (V k) pc := if_pos rfl
theorem onV_j (h : j ≠ k) : onV V k pc j = V j := if_neg h
theorem rnS_s : rnS P E1 X1 k nx (f + 1) pc c V = if V k pc = true then (none, V) else if (P pc).1 = 5 then (some (k, c), onV V k pc) else if (P pc).1 = 0 then (if X1 pc = true then nx (pc + 1) c (onV V k pc) else (none, onV V k pc)) else if (P pc).1 = 2 then (match (rnS P E1 X1 k nx f (P pc).2.1.toNat c (onV V k pc)).1 with
    | some x => (some x, (rnS P E1 X1 k nx f (P pc).2.1.toNat c (onV V k pc)).2)
    | none => rnS P E1 X1 k nx f (P pc).2.2.toNat c (rnS P E1 X1 k nx f (P pc).2.1.toNat c (onV V k pc)).2) else if (P pc).1 = 3 then rnS P E1 X1 k nx f (P pc).2.1.toNat c (onV V k pc) else if (P pc).1 = 4 then rnS P E1 X1 k nx f (pc + 1) (putC c (P pc).2.1 (k : Int)) (onV V k pc) else if E1 (P pc).2.1 = true then rnS P E1 X1 k nx f (pc + 1) c (onV V k pc) else (none, onV V k pc) := rfl
theorem rnS_N (hn : NXk k nx) (hk : m < k) : ∀ f pc c, (∀ V j, j ≤ m → (rnS P E1 X1 k nx f pc c V).2 j = V j) ∧ ∀ V V2, (∀ j, m < j → V j = V2 j) → (rnS P E1 X1 k nx f pc c V).1 = (rnS P E1 X1 k nx f pc c V2).1 ∧ ∀ j, m < j → (rnS P E1 X1 k nx f pc c V).2 j = (rnS P E1 X1 k nx f pc c V2).2 j := fun f => by
  have o1 : ∀ (V : VSs) (pc j : Nat), j ≤ m → onV V k pc j = V j := fun V pc j h => if_neg (by omega)
  have o2 : ∀ (V V2 : VSs) (pc : Nat), (∀ j, m < j → V j = V2 j) → ∀ j, m < j → onV V k pc j = onV V2 k pc j := fun V V2 pc h j hj => by
    unfold onV
    rw [h j hj, h k hk]
  induction f with
  | zero => exact fun pc c => ⟨fun _ _ _ => rfl, fun V V2 h => ⟨rfl, h⟩⟩
  | succ f ih =>
    intro pc c
    refine ⟨fun V j hj => ?_, fun V V2 h => ?_⟩
    · rw [rnS_s]
      by_cases z : V k pc = true
      · rw [if_pos z]
      · rw [if_neg z]
        by_cases z5 : (P pc).1 = 5
        · rw [if_pos z5]
          exact o1 V pc j hj
        · rw [if_neg z5]
          by_cases z0 : (P pc).1 = 0
          · rw [if_pos z0]
            by_cases zx : X1 pc = true
            · rw [if_pos zx, hn.1 _ _ _ j (by omega)]
              exact o1 V pc j hj
            · rw [if_neg zx]
              exact o1 V pc j hj
          · rw [if_neg z0]
            by_cases z2 : (P pc).1 = 2
            · rw [if_pos z2]
              have i1 := (ih (P pc).2.1.toNat c).1 (onV V k pc) j hj
              generalize rnS P E1 X1 k nx f (P pc).2.1.toNat c (onV V k pc) = R at i1 ⊢
              obtain ⟨R1, R2⟩ := R
              cases R1 with
              | some x => exact i1.trans (o1 V pc j hj)
              | none => exact ((ih (P pc).2.2.toNat c).1 R2 j hj).trans (i1.trans (o1 V pc j hj))
            · rw [if_neg z2]
              (repeat' split) <;> first | exact ((ih _ _).1 _ j hj).trans (o1 V pc j hj) | exact o1 V pc j hj
    · have hV := h k hk
      rw [rnS_s, rnS_s (V := V2), ← hV]
      by_cases z : V k pc = true
      · rw [if_pos z, if_pos z]
        exact ⟨rfl, h⟩
      · rw [if_neg z, if_neg z]
        by_cases z5 : (P pc).1 = 5
        · rw [if_pos z5, if_pos z5]
          exact ⟨rfl, o2 V V2 pc h⟩
        · rw [if_neg z5, if_neg z5]
          by_cases z0 : (P pc).1 = 0
          · rw [if_pos z0, if_pos z0]
            by_cases zx : X1 pc = true
            · rw [if_pos zx, if_pos zx]
              have q := hn.2 (pc + 1) c (onV V k pc) (onV V2 k pc) (fun j hj => o2 V V2 pc h j (by omega))
              refine ⟨q.1, fun j hj => ?_⟩
              by_cases e : k < j
              · exact q.2 j e
              · rw [hn.1 _ _ _ j (by omega), hn.1 _ _ _ j (by omega)]
                exact o2 V V2 pc h j hj
            · rw [if_neg zx, if_neg zx]
              exact ⟨rfl, o2 V V2 pc h⟩
          · rw [if_neg z0, if_neg z0]
            by_cases z2 : (P pc).1 = 2
            · rw [if_pos z2, if_pos z2]
              have i1 := (ih (P pc).2.1.toNat c).2 (onV V k pc) (onV V2 k pc) (o2 V V2 pc h)
              generalize rnS P E1 X1 k nx f (P pc).2.1.toNat c (onV V k pc) = R at i1 ⊢
              generalize rnS P E1 X1 k nx f (P pc).2.1.toNat c (onV V2 k pc) = R' at i1 ⊢
              obtain ⟨R1, R2⟩ := R
              obtain ⟨R3, R4⟩ := R'
              obtain ⟨e1, e2⟩ := i1
              have e1' : R1 = R3 := e1
              subst e1'
              cases R1 with
              | some x => exact ⟨rfl, e2⟩
              | none => exact (ih (P pc).2.2.toNat c).2 R2 R4 e2
            · rw [if_neg z2, if_neg z2]
              by_cases z3 : (P pc).1 = 3
              · rw [if_pos z3, if_pos z3]
                exact (ih _ _).2 _ _ (o2 V V2 pc h)
              · rw [if_neg z3, if_neg z3]
                by_cases z4 : (P pc).1 = 4
                · rw [if_pos z4, if_pos z4]
                  exact (ih _ _).2 _ _ (o2 V V2 pc h)
                · rw [if_neg z4, if_neg z4]
                  by_cases ze : E1 (P pc).2.1 = true
                  · rw [if_pos ze, if_pos ze]
                    exact (ih _ _).2 _ _ (o2 V V2 pc h)
                  · rw [if_neg ze, if_neg ze]
                    exact ⟨rfl, o2 V V2 pc h⟩
theorem rn_N : ∀ r k m, m < k → NXk m (rn P n E X r k) := fun r => by
  induction r with
  | zero => exact fun k m _ => ⟨fun _ _ _ _ _ => rfl, fun _ _ V V2 h => ⟨rfl, h⟩⟩
  | succ r ih =>
    intro k m hm
    have q := rnS_N (P := P) (E1 := E k) (X1 := X k) (ih (k + 1) k (Nat.lt_succ_self k)) hm
    exact ⟨fun pc c V j hj => (q n pc c).1 V j hj, fun pc c V V2 h => (q n pc c).2 V V2 h⟩
theorem prc_N (hn : NXk k nx) : ∀ (ls : LFs) (V : VSs), (∀ j, j ≤ k → (prc P X1 k nx ls V).2 j = V j) ∧ ∀ V2, (∀ j, k < j → V j = V2 j) → (prc P X1 k nx ls V).1 = (prc P X1 k nx ls V2).1 ∧ ∀ j, k < j → (prc P X1 k nx ls V).2 j = (prc P X1 k nx ls V2).2 j := fun ls => by
  induction ls with
  | nil => exact fun V => ⟨fun _ _ => rfl, fun V2 h => ⟨rfl, h⟩⟩
  | cons x ls ih =>
    intro V
    refine ⟨fun j hj => ?_, fun V2 h => ?_⟩
    · unfold prc
      by_cases z5 : (P x.1).1 = 5
      · rw [if_pos z5]
      · rw [if_neg z5]
        by_cases zx : X1 x.1 = true
        · rw [if_pos zx]
          have q := hn.1 (x.1 + 1) x.2 V j hj
          generalize nx (x.1 + 1) x.2 V = R at q ⊢
          obtain ⟨R1, R2⟩ := R
          cases R1 with
          | some y => exact q
          | none => exact ((ih R2).1 j hj).trans q
        · rw [if_neg zx]
          exact (ih V).1 j hj
    · unfold prc
      by_cases z5 : (P x.1).1 = 5
      · rw [if_pos z5, if_pos z5]
        exact ⟨rfl, h⟩
      · rw [if_neg z5, if_neg z5]
        by_cases zx : X1 x.1 = true
        · rw [if_pos zx, if_pos zx]
          have q := hn.2 (x.1 + 1) x.2 V V2 h
          generalize nx (x.1 + 1) x.2 V = R at q ⊢
          generalize nx (x.1 + 1) x.2 V2 = R' at q ⊢
          obtain ⟨R1, R2⟩ := R
          obtain ⟨R3, R4⟩ := R'
          obtain ⟨e1, e2⟩ := q
          have e1' : R1 = R3 := e1
          subst e1'
          cases R1 with
          | some y => exact ⟨rfl, e2⟩
          | none => exact (ih R2).2 R4 e2
        · rw [if_neg zx, if_neg zx]
          exact (ih V).2 V2 h
theorem prc_c {x : Nat × CPs} : prc P X1 k nx (x :: ls) V = if (P x.1).1 = 5 then (some (k, x.2), V) else if X1 x.1 = true then (match (nx (x.1 + 1) x.2 V).1 with
    | some y => (some y, (nx (x.1 + 1) x.2 V).2)
    | none => prc P X1 k nx ls (nx (x.1 + 1) x.2 V).2) else prc P X1 k nx ls V := rfl
theorem prc_app : ∀ (ls : LFs) (V : VSs), prc P X1 k nx (ls ++ ls2) V = match (prc P X1 k nx ls V).1 with
    | some y => (some y, (prc P X1 k nx ls V).2)
    | none => prc P X1 k nx ls2 (prc P X1 k nx ls V).2 := fun ls => by
  induction ls with
  | nil => exact fun V => rfl
  | cons x ls ih =>
    intro V
    show prc P X1 k nx (x :: (ls ++ ls2)) V = _
    rw [prc_c, prc_c]
    by_cases z5 : (P x.1).1 = 5
    · rw [if_pos z5, if_pos z5]
    · rw [if_neg z5, if_neg z5]
      by_cases zx : X1 x.1 = true
      · rw [if_pos zx, if_pos zx]
        generalize nx (x.1 + 1) x.2 V = R
        obtain ⟨R1, R2⟩ := R
        cases R1 with
        | some y => rfl
        | none => exact ih R2
      · rw [if_neg zx, if_neg zx]
        exact ih V
/-- a place in one go: what is come to there, then on from each -/
theorem bat (hn : NXk k nx) : ∀ f pc c V, (rnS P E1 X1 k nx f pc c V).1 = (prc P X1 k nx (dfs P E1 k f pc c (V k)).1 V).1 ∧ ((rnS P E1 X1 k nx f pc c V).1 = none → ∀ j, (rnS P E1 X1 k nx f pc c V).2 j = if j = k then (dfs P E1 k f pc c (V k)).2 else (prc P X1 k nx (dfs P E1 k f pc c (V k)).1 V).2 j) := fun f => by
  have oj : ∀ (V : VSs) (pc j : Nat), onV V k pc j = if j = k then onB (V k) pc else V j := fun _ _ _ => rfl
  induction f with
  | zero =>
    refine fun pc c V => ⟨rfl, fun _ j => ?_⟩
    show V j = if j = k then V k else V j
    split
    · next e => rw [e]
    · rfl
  | succ f ih =>
    intro pc c V
    have oo : ∀ j, k < j → onV V k pc j = V j := fun j hj => if_neg (by omega)
    rw [rnS_s, dfs_s]
    by_cases z : V k pc = true
    · rw [if_pos z, if_pos z]
      refine ⟨rfl, fun _ j => ?_⟩
      show V j = if j = k then V k else V j
      split
      · next e => rw [e]
      · rfl
    · rw [if_neg z, if_neg z]
      -- one that goes on by an instruction alone
      have thr : ∀ q d, (rnS P E1 X1 k nx f q d (onV V k pc)).1 = (prc P X1 k nx (dfs P E1 k f q d (onB (V k) pc)).1 V).1 ∧ ((rnS P E1 X1 k nx f q d (onV V k pc)).1 = none → ∀ j, (rnS P E1 X1 k nx f q d (onV V k pc)).2 j = if j = k then (dfs P E1 k f q d (onB (V k) pc)).2 else (prc P X1 k nx (dfs P E1 k f q d (onB (V k) pc)).1 V).2 j) := fun q d => by
        obtain ⟨i1, i2⟩ := ih q d (onV V k pc)
        rw [onV_k] at i1 i2
        obtain ⟨p0, p1⟩ := prc_N (P := P) (X1 := X1) hn (dfs P E1 k f q d (onB (V k) pc)).1 (onV V k pc)
        obtain ⟨p2, p3⟩ := p1 V oo
        refine ⟨i1.trans p2, fun h j => ?_⟩
        rw [i2 h j]
        by_cases e : j = k
        · rw [if_pos e, if_pos e]
        · rw [if_neg e, if_neg e]
          by_cases e2 : k < j
          · exact p3 j e2
          · rw [p0 j (by omega), (prc_N (P := P) (X1 := X1) hn _ V).1 j (by omega)]
            exact if_neg e
      by_cases z5 : (P pc).1 = 5
      · rw [if_pos z5, if_pos (Or.inr z5)]
        refine ⟨?_, fun h => by cases h⟩
        show some (k, c) = (prc P X1 k nx [(pc, c)] V).1
        unfold prc
        rw [if_pos z5]
      · rw [if_neg z5]
        by_cases z0 : (P pc).1 = 0
        · rw [if_pos z0, if_pos (Or.inl z0)]
          show (if X1 pc = true then nx (pc + 1) c (onV V k pc) else (none, onV V k pc)).1 = (prc P X1 k nx [(pc, c)] V).1 ∧ _
          have e1 : prc P X1 k nx [(pc, c)] V = if X1 pc = true then (match (nx (pc + 1) c V).1 with
            | some y => (some y, (nx (pc + 1) c V).2)
            | none => (none, (nx (pc + 1) c V).2)) else (none, V) := if_neg z5
          rw [e1]
          by_cases zx : X1 pc = true
          · rw [if_pos zx, if_pos zx]
            obtain ⟨n1, n2⟩ := hn.2 (pc + 1) c (onV V k pc) V oo
            have n3 := hn.1 (pc + 1) c (onV V k pc)
            have n4 := hn.1 (pc + 1) c V
            rw [n1]
            generalize nx (pc + 1) c V = R at n2 n4 ⊢
            obtain ⟨R1, R2⟩ := R
            cases R1 with
            | some y => exact ⟨rfl, fun h => by cases h⟩
            | none =>
              refine ⟨rfl, fun _ j => ?_⟩
              by_cases e : j = k
              · rw [if_pos e, e, n3 k (Nat.le_refl k)]
                exact onV_k
              · rw [if_neg e]
                by_cases e2 : k < j
                · exact n2 j e2
                · rw [n3 j (by omega)]
                  exact (if_neg e).trans (n4 j (by omega)).symm
          · rw [if_neg zx, if_neg zx]
            exact ⟨rfl, fun _ j => oj V pc j⟩
        · rw [if_neg z0, if_neg (show ¬ ((P pc).1 = 0 ∨ (P pc).1 = 5) from fun y => y.elim z0 z5)]
          by_cases z2 : (P pc).1 = 2
          · rw [if_pos z2, if_pos z2]
            obtain ⟨i1, i2⟩ := thr (P pc).2.1.toNat c
            have pa := prc_app (P := P) (X1 := X1) (k := k) (nx := nx) (ls2 := (dfs P E1 k f (P pc).2.2.toNat c (dfs P E1 k f (P pc).2.1.toNat c (onB (V k) pc)).2).1) (dfs P E1 k f (P pc).2.1.toNat c (onB (V k) pc)).1 V
            show _ = (prc P X1 k nx ((dfs P E1 k f (P pc).2.1.toNat c (onB (V k) pc)).1 ++ (dfs P E1 k f (P pc).2.2.toNat c (dfs P E1 k f (P pc).2.1.toNat c (onB (V k) pc)).2).1) V).1 ∧ (_ → ∀ j, _ = if j = k then (dfs P E1 k f (P pc).2.2.toNat c (dfs P E1 k f (P pc).2.1.toNat c (onB (V k) pc)).2).2 else (prc P X1 k nx ((dfs P E1 k f (P pc).2.1.toNat c (onB (V k) pc)).1 ++ (dfs P E1 k f (P pc).2.2.toNat c (dfs P E1 k f (P pc).2.1.toNat c (onB (V k) pc)).2).1) V).2 j)
            rw [pa]
            generalize hR : rnS P E1 X1 k nx f (P pc).2.1.toNat c (onV V k pc) = R at i1 i2 ⊢
            generalize hD : dfs P E1 k f (P pc).2.1.toNat c (onB (V k) pc) = D1 at i1 i2 ⊢
            have pn := prc_N (P := P) (X1 := X1) hn D1.1 V
            generalize hG : prc P X1 k nx D1.1 V = G at i1 i2 pn ⊢
            obtain ⟨R1, R2⟩ := R
            obtain ⟨G1, G2⟩ := G
            have i1' : R1 = G1 := i1
            subst i1'
            cases R1 with
            | some y => exact ⟨rfl, fun h => by cases h⟩
            | none =>
              have i2' : ∀ j, R2 j = if j = k then D1.2 else G2 j := i2 rfl
              obtain ⟨j1, j2⟩ := ih (P pc).2.2.toNat c R2
              rw [i2' k, if_pos rfl] at j1 j2
              obtain ⟨p0, p1⟩ := prc_N (P := P) (X1 := X1) hn (dfs P E1 k f (P pc).2.2.toNat c D1.2).1 R2
              obtain ⟨p2, p3⟩ := p1 G2 (fun j hj => by rw [i2' j, if_neg (by omega)])
              refine ⟨j1.trans p2, fun h j => ?_⟩
              show (rnS P E1 X1 k nx f (P pc).2.2.toNat c R2).2 j = _
              rw [j2 h j]
              by_cases e : j = k
              · rw [if_pos e, if_pos e]
              · rw [if_neg e, if_neg e]
                by_cases e2 : k < j
                · exact p3 j e2
                · show (prc P X1 k nx (dfs P E1 k f (P pc).2.2.toNat c D1.2).1 R2).2 j = (prc P X1 k nx (dfs P E1 k f (P pc).2.2.toNat c D1.2).1 G2).2 j
                  rw [p0 j (by omega), (prc_N (P := P) (X1 := X1) hn _ G2).1 j (by omega), i2' j, if_neg e]
          · rw [if_neg z2, if_neg z2]
            by_cases z3 : (P pc).1 = 3
            · rw [if_pos z3, if_pos z3]
              exact thr _ _
            · rw [if_neg z3, if_neg z3]
              by_cases z4 : (P pc).1 = 4
              · rw [if_pos z4, if_pos z4]
                exact thr _ _
              · rw [if_neg z4, if_neg z4]
                by_cases ze : E1 (P pc).2.1 = true
                · rw [if_pos ze, if_pos ze]
                  exact thr _ _
                · rw [if_neg ze, if_neg ze]
                  exact ⟨rfl, fun _ j => oj V pc j⟩
end OQO
