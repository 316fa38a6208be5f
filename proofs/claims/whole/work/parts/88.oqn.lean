/-! ENGINES: programs, abstractly: what is come to without a character, in which order -/
section OQN
abbrev CPs : Type := Nat → Int
abbrev SNs : Type := Nat → Bool
abbrev LFs : Type := List (Nat × CPs)
variable {P : Nat → T3} {E : Int → Bool} {X lv : SNs} {n f k m pc i j : Nat} {c c2 : CPs} {A A2 B : SNs} {ls ls2 rs : LFs}
def onB (A : SNs) (i : Nat) : SNs := fun j => if j = i then true else A j
def putC (c : CPs) (i : Int) (v : Int) : CPs := fun j => if (j : Int) = i then v else c j
def dfs (P : Nat → T3) (E : Int → Bool) (k : Nat) : Nat → Nat → CPs → SNs → LFs × SNs
  | 0, _, _, A => ([], A)
  | f + 1, pc, c, A => if A pc = true then ([], A) else if (P pc).1 = 0 ∨ (P pc).1 = 5 then ([(pc, c)], onB A pc) else if (P pc).1 = 2 then ((dfs P E k f (P pc).2.1.toNat c (onB A pc)).1 ++ (dfs P E k f (P pc).2.2.toNat c (dfs P E k f (P pc).2.1.toNat c (onB A pc)).2).1, (dfs P E k f (P pc).2.2.toNat c (dfs P E k f (P pc).2.1.toNat c (onB A pc)).2).2) else if (P pc).1 = 3 then dfs P E k f (P pc).2.1.toNat c (onB A pc) else if (P pc).1 = 4 then dfs P E k f (pc + 1) (putC c (P pc).2.1 (k : Int)) (onB A pc) else if E (P pc).2.1 = true then dfs P E k f (pc + 1) c (onB A pc) else ([], onB A pc)
theorem dfs_s : dfs P E k (f + 1) pc c A = if A pc = true then ([], A) else if (P pc).1 = 0 ∨ (P pc).1 = 5 then ([(pc, c)], onB A pc) else if (P pc).1 = 2 then ((dfs P E k f (P pc).2.1.toNat c (onB A pc)).1 ++ (dfs P E k f (P pc).2.2.toNat c (dfs P E k f (P pc).2.1.toNat c (onB A pc)).2).1, (dfs P E k f (P pc).2.2.toNat c (dfs P E k f (P pc).2.1.toNat c (onB A pc)).2).2) else if (P pc).1 = 3 then dfs P E k f (P pc).2.1.toNat c (onB A pc) else if (P pc).1 = 4 then dfs P E k f (pc + 1) (putC c (P pc).2.1 (k : Int)) (onB A pc) else if E (P pc).2.1 = true then dfs P E k f (pc + 1) c (onB A pc) else ([], onB A pc) := rfl
/-- how many are not come to yet -/
def cnf (A : SNs) : Nat → Nat
  | 0 => 0
  | m + 1 => cnf A m + if A m = true then 0 else 1
theorem cnf_le : ∀ n, cnf A n ≤ n := fun n => by
  induction n with
  | zero => exact Nat.le_refl _
  | succ n ih =>
    show cnf A n + (if A n = true then 0 else 1) ≤ n + 1
    split <;> omega
theorem cnf_on (h : A i = false) : ∀ n, i < n → cnf (onB A i) n + 1 = cnf A n := fun n => by
  induction n with
  | zero => exact fun z => absurd z (Nat.not_lt_zero _)
  | succ n ih =>
    intro hi
    show cnf (onB A i) n + (if onB A i n = true then 0 else 1) + 1 = cnf A n + (if A n = true then 0 else 1)
    by_cases e : i = n
    · subst e
      have q : ∀ m, m ≤ i → cnf (onB A i) m = cnf A m := fun m => by
        induction m with
        | zero => exact fun _ => rfl
        | succ m ih =>
          intro hm
          show cnf (onB A i) m + (if onB A i m = true then 0 else 1) = cnf A m + (if A m = true then 0 else 1)
          rw [ih (by omega), show onB A i m = A m from if_neg (by omega)]
      rw [q i (Nat.le_refl _), show onB A i i = true from if_pos rfl, h]
      rfl
    · have := ih (by omega)
      rw [show onB A i n = A n from if_neg (by omega)]
      omega
theorem cnf_m (h : ∀ i, A i = true → B i = true) : ∀ n, cnf B n ≤ cnf A n := fun n => by
  induction n with
  | zero => exact Nat.le_refl _
  | succ n ih =>
    show cnf B n + (if B n = true then 0 else 1) ≤ cnf A n + (if A n = true then 0 else 1)
    by_cases z : A n = true
    · rw [if_pos z, if_pos (h n z)]
      omega
    · rw [if_neg z]
      split <;> omega
theorem cnf_0 (h : cnf A n = 0) (hi : i < n) : A i = true := by
  induction n with
  | zero => exact absurd hi (Nat.not_lt_zero _)
  | succ n ih =>
    have e : cnf A n + (if A n = true then 0 else 1) = 0 := h
    by_cases z : i = n
    · subst z
      by_cases w : A i = true
      · exact w
      · rw [if_neg w] at e
        omega
    · exact ih (by omega) (by omega)
/-- a program of n instructions, all targets within -/
def wfP (P : Nat → T3) (n : Nat) : Prop := ∀ i, i < n → ((P i).1 = 0 ∧ i + 1 < n) ∨ ((P i).1 = 1 ∧ i + 1 < n) ∨ ((P i).1 = 2 ∧ (0 ≤ (P i).2.1 ∧ (P i).2.1 < n) ∧ (0 ≤ (P i).2.2 ∧ (P i).2.2 < n)) ∨ ((P i).1 = 3 ∧ (0 ≤ (P i).2.1 ∧ (P i).2.1 < n)) ∨ ((P i).1 = 4 ∧ i + 1 < n ∧ 2 ≤ (P i).2.1 ∧ (P i).2.1 < 20) ∨ (P i).1 = 5
theorem dfs_sub : ∀ f pc c A, A i = true → (dfs P E k f pc c A).2 i = true := fun f => by
  induction f with
  | zero => exact fun _ _ _ h => h
  | succ f ih =>
    intro pc c A h
    have h2 : onB A pc i = true := by
      unfold onB
      split
      · rfl
      · exact h
    rw [dfs_s]
    (repeat' split) <;> first | exact h | exact h2 | exact ih _ _ _ h2 | exact ih _ _ _ (ih _ _ _ h2)
theorem dfs_cnf (hw : wfP P n) : ∀ f pc c A, pc < n → (dfs P E k f pc c A).1.length + cnf (dfs P E k f pc c A).2 n ≤ cnf A n ∧ ∀ q d, (q, d) ∈ (dfs P E k f pc c A).1 → q < n ∧ ((P q).1 = 0 ∨ (P q).1 = 5) ∧ ∀ s : Nat, s < 2 → d s = c s := fun f => by
  induction f with
  | zero =>
    intro pc c A _
    show ([] : LFs).length + cnf A n ≤ cnf A n ∧ _
    exact ⟨by simp, fun q d h => by cases h⟩
  | succ f ih =>
    intro pc c A hp
    have w := hw pc hp
    rw [dfs_s]
    by_cases z : A pc = true
    · rw [if_pos z]
      exact ⟨by simp, fun q d h => by cases h⟩
    · have z' : A pc = false := by simpa using z
      have on := cnf_on z' n hp
      rw [if_neg z]
      by_cases o0 : (P pc).1 = 0 ∨ (P pc).1 = 5
      · rw [if_pos o0]
        refine ⟨by simp; omega, fun q d h => ?_⟩
        have e : (q, d) = (pc, c) := by simpa using h
        obtain ⟨rfl, rfl⟩ := Prod.mk.inj e
        exact ⟨hp, o0, fun _ _ => rfl⟩
      · rw [if_neg o0]
        by_cases o2 : (P pc).1 = 2
        · rw [if_pos o2]
          have w2 : (0 ≤ (P pc).2.1 ∧ (P pc).2.1 < n) ∧ (0 ≤ (P pc).2.2 ∧ (P pc).2.2 < n) := by
            rcases w with y | y | y | y | y | y
            · omega
            · omega
            · exact y.2
            · omega
            · omega
            · omega
          obtain ⟨i1, i2⟩ := ih (P pc).2.1.toNat c (onB A pc) (by omega)
          obtain ⟨j1, j2⟩ := ih (P pc).2.2.toNat c (dfs P E k f (P pc).2.1.toNat c (onB A pc)).2 (by omega)
          dsimp only
          refine ⟨by rw [List.length_append]; omega, fun q d h => ?_⟩
          rcases List.mem_append.mp h with y | y
          · exact i2 q d y
          · exact j2 q d y
        · rw [if_neg o2]
          by_cases o3 : (P pc).1 = 3
          · rw [if_pos o3]
            have w3 : 0 ≤ (P pc).2.1 ∧ (P pc).2.1 < n := by
              rcases w with y | y | y | y | y | y
              · omega
              · omega
              · omega
              · exact y.2
              · omega
              · omega
            obtain ⟨i1, i2⟩ := ih (P pc).2.1.toNat c (onB A pc) (by omega)
            exact ⟨by omega, i2⟩
          · rw [if_neg o3]
            by_cases o4 : (P pc).1 = 4
            · rw [if_pos o4]
              have w4 : pc + 1 < n ∧ 2 ≤ (P pc).2.1 := by
                rcases w with y | y | y | y | y | y
                · omega
                · omega
                · omega
                · omega
                · exact ⟨y.2.1, y.2.2.1⟩
                · omega
              obtain ⟨i1, i2⟩ := ih (pc + 1) (putC c (P pc).2.1 (k : Int)) (onB A pc) w4.1
              refine ⟨by omega, fun q d h => ⟨(i2 q d h).1, (i2 q d h).2.1, fun s hs => ?_⟩⟩
              rw [(i2 q d h).2.2 s hs]
              exact if_neg (by omega)
            · rw [if_neg o4]
              by_cases oe : E (P pc).2.1 = true
              · rw [if_pos oe]
                have w1 : pc + 1 < n := by
                  rcases w with y | y | y | y | y | y
                  · omega
                  · exact y.2
                  · omega
                  · omega
                  · omega
                  · omega
                obtain ⟨i1, i2⟩ := ih (pc + 1) c (onB A pc) w1
                exact ⟨by omega, i2⟩
              · rw [if_neg oe]
                exact ⟨by simp; omega, fun q d h => by cases h⟩
/-- those that count -/
def flt (lv : SNs) : LFs → LFs
  | [] => []
  | x :: ls => if lv x.1 = true then x :: flt lv ls else flt lv ls
theorem flt_c {x : Nat × CPs} : flt lv (x :: ls) = if lv x.1 = true then x :: flt lv ls else flt lv ls := rfl
theorem flt_app : flt lv (ls ++ ls2) = flt lv ls ++ flt lv ls2 := by
  induction ls with
  | nil => rfl
  | cons x ls ih =>
    show flt lv (x :: (ls ++ ls2)) = flt lv (x :: ls) ++ flt lv ls2
    rw [flt_c, flt_c]
    by_cases z : lv x.1 = true
    · rw [if_pos z, if_pos z, ih]
      rfl
    · rw [if_neg z, if_neg z, ih]
/-- from where the end can be come to -/
def lvP (P : Nat → T3) (n : Nat) (lv : SNs) : Prop := ∀ i, i < n → ((P i).1 = 2 → lv (P i).2.1.toNat = true ∨ lv (P i).2.2.toNat = true → lv i = true) ∧ ((P i).1 = 3 → lv (P i).2.1.toNat = true → lv i = true) ∧ ((P i).1 = 4 ∨ (P i).1 = 1 → lv (i + 1) = true → lv i = true) ∧ ((P i).1 = 5 → lv i = true)
/-- what doesn't lead on leads to nothing -/
theorem dfs_dead (hw : wfP P n) (hl : lvP P n lv) : ∀ f pc c A, pc < n → lv pc = false → flt lv (dfs P E k f pc c A).1 = [] ∧ ∀ i, lv i = true → (dfs P E k f pc c A).2 i = A i := fun f => by
  induction f with
  | zero => exact fun _ _ _ _ _ => ⟨rfl, fun _ _ => rfl⟩
  | succ f ih =>
    intro pc c A hp hd
    have w := hw pc hp
    have l := hl pc hp
    have on : ∀ i, lv i = true → onB A pc i = A i := fun i hi => if_neg (fun e => by
      rw [e, hd] at hi
      exact absurd hi (by decide))
    rw [dfs_s]
    by_cases z : A pc = true
    · rw [if_pos z]
      exact ⟨rfl, fun _ _ => rfl⟩
    · rw [if_neg z]
      by_cases o0 : (P pc).1 = 0 ∨ (P pc).1 = 5
      · rw [if_pos o0]
        exact ⟨if_neg (by rw [hd]; decide), on⟩
      · rw [if_neg o0]
        by_cases o2 : (P pc).1 = 2
        · rw [if_pos o2]
          have w2 : (0 ≤ (P pc).2.1 ∧ (P pc).2.1 < n) ∧ (0 ≤ (P pc).2.2 ∧ (P pc).2.2 < n) := by
            rcases w with y | y | y | y | y | y
            · omega
            · omega
            · exact y.2
            · omega
            · omega
            · omega
          have d1 : lv (P pc).2.1.toNat = false := Bool.eq_false_iff.mpr fun y => by
            have := l.1 o2 (Or.inl y)
            rw [hd] at this
            exact absurd this (by decide)
          have d2 : lv (P pc).2.2.toNat = false := Bool.eq_false_iff.mpr fun y => by
            have := l.1 o2 (Or.inr y)
            rw [hd] at this
            exact absurd this (by decide)
          obtain ⟨i1, i2⟩ := ih (P pc).2.1.toNat c (onB A pc) (by omega) d1
          obtain ⟨j1, j2⟩ := ih (P pc).2.2.toNat c (dfs P E k f (P pc).2.1.toNat c (onB A pc)).2 (by omega) d2
          exact ⟨by rw [flt_app, i1, j1]; rfl, fun i hi => by rw [j2 i hi, i2 i hi, on i hi]⟩
        · rw [if_neg o2]
          by_cases o3 : (P pc).1 = 3
          · rw [if_pos o3]
            have w3 : 0 ≤ (P pc).2.1 ∧ (P pc).2.1 < n := by
              rcases w with y | y | y | y | y | y
              · omega
              · omega
              · omega
              · exact y.2
              · omega
              · omega
            have d1 : lv (P pc).2.1.toNat = false := Bool.eq_false_iff.mpr fun y => by
              have := l.2.1 o3 y
              rw [hd] at this
              exact absurd this (by decide)
            obtain ⟨i1, i2⟩ := ih (P pc).2.1.toNat c (onB A pc) (by omega) d1
            exact ⟨i1, fun i hi => by rw [i2 i hi, on i hi]⟩
          · rw [if_neg o3]
            have o14 : (P pc).1 = 4 ∨ (P pc).1 = 1 := by
              rcases w with y | y | y | y | y | y <;> omega
            have w4 : pc + 1 < n := by
              rcases w with y | y | y | y | y | y <;> omega
            have d1 : lv (pc + 1) = false := Bool.eq_false_iff.mpr fun y => by
              have := l.2.2.1 o14 y
              rw [hd] at this
              exact absurd this (by decide)
            by_cases o4 : (P pc).1 = 4
            · rw [if_pos o4]
              obtain ⟨i1, i2⟩ := ih (pc + 1) (putC c (P pc).2.1 (k : Int)) (onB A pc) w4 d1
              exact ⟨i1, fun i hi => by rw [i2 i hi, on i hi]⟩
            · rw [if_neg o4]
              by_cases oe : E (P pc).2.1 = true
              · rw [if_pos oe]
                obtain ⟨i1, i2⟩ := ih (pc + 1) c (onB A pc) w4 d1
                exact ⟨i1, fun i hi => by rw [i2 i hi, on i hi]⟩
              · rw [if_neg oe]
                exact ⟨rfl, on⟩
/-- what has been come to matters only where it leads on -/
theorem dfs_live (hw : wfP P n) (hl : lvP P n lv) : ∀ f pc c A A2, pc < n → (∀ i, lv i = true → A i = A2 i) → flt lv (dfs P E k f pc c A).1 = flt lv (dfs P E k f pc c A2).1 ∧ ∀ i, lv i = true → (dfs P E k f pc c A).2 i = (dfs P E k f pc c A2).2 i := fun f => by
  induction f with
  | zero => exact fun _ _ _ _ _ h => ⟨rfl, h⟩
  | succ f ih =>
    intro pc c A A2 hp hA
    by_cases hd : lv pc = true
    · have w := hw pc hp
      have on : ∀ i, lv i = true → onB A pc i = onB A2 pc i := fun i hi => by
        unfold onB
        rw [hA i hi]
      rw [dfs_s, dfs_s (A := A2), ← hA pc hd]
      by_cases z : A pc = true
      · rw [if_pos z, if_pos z]
        exact ⟨rfl, hA⟩
      · rw [if_neg z, if_neg z]
        by_cases o0 : (P pc).1 = 0 ∨ (P pc).1 = 5
        · rw [if_pos o0, if_pos o0]
          exact ⟨rfl, on⟩
        · rw [if_neg o0, if_neg o0]
          by_cases o2 : (P pc).1 = 2
          · rw [if_pos o2, if_pos o2]
            have w2 : (0 ≤ (P pc).2.1 ∧ (P pc).2.1 < n) ∧ (0 ≤ (P pc).2.2 ∧ (P pc).2.2 < n) := by
              rcases w with y | y | y | y | y | y
              · omega
              · omega
              · exact y.2
              · omega
              · omega
              · omega
            obtain ⟨i1, i2⟩ := ih (P pc).2.1.toNat c (onB A pc) (onB A2 pc) (by omega) on
            obtain ⟨j1, j2⟩ := ih (P pc).2.2.toNat c (dfs P E k f (P pc).2.1.toNat c (onB A pc)).2 (dfs P E k f (P pc).2.1.toNat c (onB A2 pc)).2 (by omega) i2
            exact ⟨by rw [flt_app, flt_app, i1, j1], j2⟩
          · rw [if_neg o2, if_neg o2]
            by_cases o3 : (P pc).1 = 3
            · rw [if_pos o3, if_pos o3]
              have w3 : 0 ≤ (P pc).2.1 ∧ (P pc).2.1 < n := by
                rcases w with y | y | y | y | y | y
                · omega
                · omega
                · omega
                · exact y.2
                · omega
                · omega
              exact ih (P pc).2.1.toNat c (onB A pc) (onB A2 pc) (by omega) on
            · rw [if_neg o3, if_neg o3]
              have w4 : pc + 1 < n := by
                rcases w with y | y | y | y | y | y <;> omega
              by_cases o4 : (P pc).1 = 4
              · rw [if_pos o4, if_pos o4]
                exact ih (pc + 1) (putC c (P pc).2.1 (k : Int)) (onB A pc) (onB A2 pc) w4 on
              · rw [if_neg o4, if_neg o4]
                by_cases oe : E (P pc).2.1 = true
                · rw [if_pos oe, if_pos oe]
                  exact ih (pc + 1) c (onB A pc) (onB A2 pc) w4 on
                · rw [if_neg oe, if_neg oe]
                  exact ⟨rfl, on⟩
    · have hd' : lv pc = false := by simpa using hd
      obtain ⟨a1, a2⟩ := dfs_dead (E := E) (k := k) hw hl (f + 1) pc c A hp hd'
      obtain ⟨b1, b2⟩ := dfs_dead (E := E) (k := k) hw hl (f + 1) pc c A2 hp hd'
      exact ⟨by rw [a1, b1], fun i hi => by rw [a2 i hi, b2 i hi, hA i hi]⟩
/-- from many places, one after the other -/
def dfsL (P : Nat → T3) (E : Int → Bool) (k n : Nat) : LFs → SNs → LFs × SNs
  | [], A => ([], A)
  | x :: rs, A => ((dfs P E k n x.1 x.2 A).1 ++ (dfsL P E k n rs (dfs P E k n x.1 x.2 A).2).1, (dfsL P E k n rs (dfs P E k n x.1 x.2 A).2).2)
theorem dfsL_c {x : Nat × CPs} : dfsL P E k n (x :: rs) A = ((dfs P E k n x.1 x.2 A).1 ++ (dfsL P E k n rs (dfs P E k n x.1 x.2 A).2).1, (dfsL P E k n rs (dfs P E k n x.1 x.2 A).2).2) := rfl
theorem dfsL_app : ∀ rs A, dfsL P E k n (rs ++ ls) A = ((dfsL P E k n rs A).1 ++ (dfsL P E k n ls (dfsL P E k n rs A).2).1, (dfsL P E k n ls (dfsL P E k n rs A).2).2) := fun rs => by
  induction rs with
  | nil => exact fun _ => rfl
  | cons x rs ih =>
    intro A
    show dfsL P E k n (x :: (rs ++ ls)) A = _
    rw [dfsL_c, dfsL_c, ih, List.append_assoc]
theorem dfsL_cnf (hw : wfP P n) : ∀ rs A, (∀ x, x ∈ rs → x.1 < n) → (dfsL P E k n rs A).1.length + cnf (dfsL P E k n rs A).2 n ≤ cnf A n ∧ ∀ q d, (q, d) ∈ (dfsL P E k n rs A).1 → q < n ∧ ((P q).1 = 0 ∨ (P q).1 = 5) := fun rs => by
  induction rs with
  | nil =>
    intro A _
    show ([] : LFs).length + cnf A n ≤ cnf A n ∧ _
    exact ⟨by simp, fun q d h => by cases h⟩
  | cons x rs ih =>
    intro A hr
    obtain ⟨d1, d2⟩ := dfs_cnf (E := E) (k := k) hw n x.1 x.2 A (hr x (List.mem_cons_self ..))
    obtain ⟨i1, i2⟩ := ih (dfs P E k n x.1 x.2 A).2 (fun y hy => hr y (List.mem_cons_of_mem _ hy))
    rw [dfsL_c]
    dsimp only
    refine ⟨by rw [List.length_append]; omega, fun q d h => ?_⟩
    rcases List.mem_append.mp h with y | y
    · exact ⟨(d2 q d y).1, (d2 q d y).2.1⟩
    · exact i2 q d y
theorem dfsL_live (hw : wfP P n) (hl : lvP P n lv) : ∀ rs rs2 A A2, (∀ x, x ∈ rs → x.1 < n) → (∀ x, x ∈ rs2 → x.1 < n) → flt lv rs = flt lv rs2 → (∀ i, lv i = true → A i = A2 i) → flt lv (dfsL P E k n rs A).1 = flt lv (dfsL P E k n rs2 A2).1 ∧ ∀ i, lv i = true → (dfsL P E k n rs A).2 i = (dfsL P E k n rs2 A2).2 i := fun rs => by
  -- those that lead to nothing may be left out
  have one : ∀ rs A, (∀ x, x ∈ rs → x.1 < n) → flt lv (dfsL P E k n rs A).1 = flt lv (dfsL P E k n (flt lv rs) A).1 ∧ ∀ i, lv i = true → (dfsL P E k n rs A).2 i = (dfsL P E k n (flt lv rs) A).2 i := fun rs => by
    induction rs with
    | nil => exact fun A _ => ⟨rfl, fun _ _ => rfl⟩
    | cons x rs ih =>
      intro A hr
      have hx := hr x (List.mem_cons_self ..)
      have hr' : ∀ y, y ∈ rs → y.1 < n := fun y hy => hr y (List.mem_cons_of_mem _ hy)
      have fin : ∀ y, y ∈ flt lv rs → y.1 < n := by
        intro y hy
        have : ∀ l : LFs, y ∈ flt lv l → y ∈ l := fun l => by
          induction l with
          | nil => exact fun h => h
          | cons a l il =>
            intro h
            unfold flt at h
            by_cases z : lv a.1 = true
            · rw [if_pos z] at h
              rcases List.mem_cons.mp h with w | w
              · rw [w]
                exact List.mem_cons_self ..
              · exact List.mem_cons_of_mem _ (il w)
            · rw [if_neg z] at h
              exact List.mem_cons_of_mem _ (il h)
        exact hr' y (this rs hy)
      obtain ⟨i1, i2⟩ := ih (dfs P E k n x.1 x.2 A).2 hr'
      have e0 : dfsL P E k n (x :: rs) A = ((dfs P E k n x.1 x.2 A).1 ++ (dfsL P E k n rs (dfs P E k n x.1 x.2 A).2).1, (dfsL P E k n rs (dfs P E k n x.1 x.2 A).2).2) := rfl
      by_cases z : lv x.1 = true
      · rw [show flt lv (x :: rs) = x :: flt lv rs from if_pos z, e0]
        show flt lv (_ ++ _) = flt lv ((dfs P E k n x.1 x.2 A).1 ++ (dfsL P E k n (flt lv rs) (dfs P E k n x.1 x.2 A).2).1) ∧ _
        rw [flt_app, flt_app, i1]
        exact ⟨rfl, i2⟩
      · rw [show flt lv (x :: rs) = flt lv rs from if_neg z, e0]
        obtain ⟨d1, d2⟩ := dfs_dead (E := E) (k := k) hw hl n x.1 x.2 A hx (by simpa using z)
        have li : ∀ (l : LFs) (A A2 : SNs), (∀ y, y ∈ l → y.1 < n) → (∀ i, lv i = true → A i = A2 i) → flt lv (dfsL P E k n l A).1 = flt lv (dfsL P E k n l A2).1 ∧ ∀ i, lv i = true → (dfsL P E k n l A).2 i = (dfsL P E k n l A2).2 i := fun l => by
          induction l with
          | nil => exact fun A A2 _ h => ⟨rfl, h⟩
          | cons a l il =>
            intro A A2 ha h
            obtain ⟨q1, q2⟩ := dfs_live (E := E) (k := k) hw hl n a.1 a.2 A A2 (ha a (List.mem_cons_self ..)) h
            obtain ⟨q3, q4⟩ := il _ _ (fun y hy => ha y (List.mem_cons_of_mem _ hy)) q2
            show flt lv (_ ++ _) = flt lv ((dfs P E k n a.1 a.2 A2).1 ++ (dfsL P E k n l (dfs P E k n a.1 a.2 A2).2).1) ∧ _
            rw [flt_app, flt_app, q1, q3]
            exact ⟨rfl, q4⟩
        obtain ⟨q1, q2⟩ := li (flt lv rs) _ A fin d2
        show flt lv (_ ++ _) = _ ∧ _
        rw [flt_app, d1, i1, q1]
        exact ⟨rfl, fun i hi => by
          show (dfsL P E k n rs (dfs P E k n x.1 x.2 A).2).2 i = _
          rw [i2 i hi, q2 i hi]⟩
  have li : ∀ (l : LFs) (A A2 : SNs), (∀ y, y ∈ l → y.1 < n) → (∀ i, lv i = true → A i = A2 i) → flt lv (dfsL P E k n l A).1 = flt lv (dfsL P E k n l A2).1 ∧ ∀ i, lv i = true → (dfsL P E k n l A).2 i = (dfsL P E k n l A2).2 i := fun l => by
    induction l with
    | nil => exact fun A A2 _ h => ⟨rfl, h⟩
    | cons a l il =>
      intro A A2 ha h
      obtain ⟨q1, q2⟩ := dfs_live (E := E) (k := k) hw hl n a.1 a.2 A A2 (ha a (List.mem_cons_self ..)) h
      obtain ⟨q3, q4⟩ := il _ _ (fun y hy => ha y (List.mem_cons_of_mem _ hy)) q2
      show flt lv (_ ++ _) = flt lv ((dfs P E k n a.1 a.2 A2).1 ++ (dfsL P E k n l (dfs P E k n a.1 a.2 A2).2).1) ∧ _
      rw [flt_app, flt_app, q1, q3]
      exact ⟨rfl, q4⟩
  intro rs2 A A2 h1 h2 hf hA
  obtain ⟨a1, a2⟩ := one rs A h1
  obtain ⟨b1, b2⟩ := one rs2 A2 h2
  obtain ⟨c1, c2⟩ := li rs2 A A2 h2 hA
  obtain ⟨d1, d2⟩ := one rs2 A h2
  exact ⟨by rw [a1, hf, ← d1, c1], fun i hi => by rw [a2 i hi, hf, ← d2 i hi, c2 i hi]⟩
/-- up to the first one that has come to the end -/
def cut (P : Nat → T3) : LFs → LFs × Option CPs
  | [] => ([], none)
  | x :: ls => if (P x.1).1 = 5 then ([], some x.2) else (x :: (cut P ls).1, (cut P ls).2)
/-- past a character -/
def suc (X : SNs) : LFs → LFs
  | [] => []
  | x :: ls => if X x.1 = true then (x.1 + 1, x.2) :: suc X ls else suc X ls
def c0 (k : Nat) : CPs := fun j => if j = 0 then (k : Int) else -1
def rts (k : Nat) (rs : LFs) (ms : Bool) : LFs := if ms = true then rs ++ [(0, c0 k)] else rs
/-- threads, place by place -/
def PK (P : Nat → T3) (n : Nat) (E : Nat → Int → Bool) (X : Nat → SNs) (lv : SNs) : Nat → Nat → LFs → Bool → Option (Nat × CPs)
  | 0, k, rs, ms => match (cut P (flt lv (dfsL P (E k) k n (rts k rs ms) (fun _ => false)).1)).2 with
    | some c => some (k, c)
    | none => none
  | r + 1, k, rs, ms => match (cut P (flt lv (dfsL P (E k) k n (rts k rs ms) (fun _ => false)).1)).2 with
    | some c => (match PK P n E X lv r (k + 1) (suc (X k) (cut P (flt lv (dfsL P (E k) k n (rts k rs ms) (fun _ => false)).1)).1) false with
      | some x => some x
      | none => some (k, c))
    | none => PK P n E X lv r (k + 1) (suc (X k) (cut P (flt lv (dfsL P (E k) k n (rts k rs ms) (fun _ => false)).1)).1) ms
end OQN
