/-! STREAMS: threads of a text that comes in parts -/
section ORF
variable {P : Nat → T3} {X X2 : Nat → SNs} {X1 lv : SNs} {n k : Nat} {an ms : Bool} {ls rs rs2 : LFs} {b : Option (Nat × CPs)}
def noE : Int → Bool := fun _ => false
/-- a place: the threads that go on, and the best so far -/
def stb (P : Nat → T3) (n : Nat) (lv : SNs) (k : Nat) (rs : LFs) (ms : Bool) (b : Option (Nat × CPs)) : LFs × Option (Nat × CPs) := ((cut P (flt lv (dfsL P noE k n (rts k rs ms) (fun _ => false)).1)).1, match (cut P (flt lv (dfsL P noE k n (rts k rs ms) (fun _ => false)).1)).2 with
  | some c => some (k, c)
  | none => b)
def mst (an : Bool) (b : Option (Nat × CPs)) : Bool := if an = true then false else b.isNone
def stm (P : Nat → T3) (n : Nat) (X : Nat → SNs) (lv : SNs) (an : Bool) : Nat → LFs × Option (Nat × CPs)
  | 0 => stb P n lv 0 [] true none
  | k + 1 => stb P n lv (k + 1) (suc (X k) (stm P n X lv an k).1) (mst an (stm P n X lv an k).2) (stm P n X lv an k).2
theorem stm_s : stm P n X lv an (k + 1) = stb P n lv (k + 1) (suc (X k) (stm P n X lv an k).1) (mst an (stm P n X lv an k).2) (stm P n X lv an k).2 := rfl
theorem flt_m {x : Nat × CPs} : ∀ l : LFs, x ∈ flt lv l → x ∈ l := fun l => by
  induction l with
  | nil => exact fun h => h
  | cons a l il =>
    intro h
    unfold flt at h
    by_cases z : lv a.1 = true
    · rw [if_pos z] at h
      rcases List.mem_cons.mp h with w | w
      · rw [w]
        exact List.mem_cons_self ..
      · exact List.mem_cons_of_mem _ (il w)
    · rw [if_neg z] at h
      exact List.mem_cons_of_mem _ (il h)
theorem flt_f : ∀ l : LFs, flt lv (flt lv l) = flt lv l := fun l => by
  induction l with
  | nil => rfl
  | cons a l il =>
    by_cases z : lv a.1 = true
    · have e : flt lv (a :: l) = a :: flt lv l := if_pos z
      have e2 : flt lv (a :: flt lv l) = a :: flt lv (flt lv l) := if_pos z
      rw [e, e2, il]
    · have e : flt lv (a :: l) = flt lv l := if_neg z
      rw [e, il]
theorem flt_len : ∀ l : LFs, (flt lv l).length ≤ l.length := fun l => by
  induction l with
  | nil => exact Nat.le_refl _
  | cons a l il =>
    by_cases z : lv a.1 = true
    · have e : flt lv (a :: l) = a :: flt lv l := if_pos z
      rw [e, List.length_cons, List.length_cons]
      omega
    · have e : flt lv (a :: l) = flt lv l := if_neg z
      rw [e, List.length_cons]
      omega
theorem cut_m {x : Nat × CPs} : ∀ l : LFs, x ∈ (cut P l).1 → x ∈ l ∧ (P x.1).1 ≠ 5 := fun l => by
  induction l with
  | nil => exact fun h => by cases h
  | cons a l il =>
    intro h
    by_cases z : (P a.1).1 = 5
    · have e : cut P (a :: l) = ([], some a.2) := if_pos z
      rw [e] at h
      cases h
    · have e : cut P (a :: l) = (a :: (cut P l).1, (cut P l).2) := if_neg z
      rw [e] at h
      rcases List.mem_cons.mp h with w | w
      · rw [w]
        exact ⟨List.mem_cons_self .., z⟩
      · exact ⟨List.mem_cons_of_mem _ (il w).1, (il w).2⟩
theorem cut_len : ∀ l : LFs, (cut P l).1.length ≤ l.length := fun l => by
  induction l with
  | nil => exact Nat.le_refl _
  | cons a l il =>
    by_cases z : (P a.1).1 = 5
    · have e : cut P (a :: l) = ([], some a.2) := if_pos z
      rw [e]
      exact Nat.zero_le _
    · have e : cut P (a :: l) = (a :: (cut P l).1, (cut P l).2) := if_neg z
      rw [e]
      show (a :: (cut P l).1).length ≤ (a :: l).length
      rw [List.length_cons, List.length_cons]
      omega
theorem suc_len : ∀ l : LFs, (suc X1 l).length ≤ l.length := fun l => by
  induction l with
  | nil => exact Nat.le_refl _
  | cons a l il =>
    unfold suc
    by_cases z : X1 a.1 = true
    · rw [if_pos z, List.length_cons, List.length_cons]
      omega
    · rw [if_neg z, List.length_cons]
      omega
theorem suc_flt (hX : lvX P n X lv) : ∀ l : LFs, (∀ x, x ∈ l → x.1 < n ∧ (P x.1).1 = 0) → suc (X k) (flt lv l) = flt lv (suc (X k) l) := fun l => by
  induction l with
  | nil => exact fun _ => rfl
  | cons a l il =>
    intro h
    have i := il (fun x hx => h x (List.mem_cons_of_mem _ hx))
    obtain ⟨h1, h2⟩ := h a (List.mem_cons_self ..)
    have es : ∀ l : LFs, suc (X k) (a :: l) = if X k a.1 = true then (a.1 + 1, a.2) :: suc (X k) l else suc (X k) l := fun _ => rfl
    by_cases z : lv a.1 = true
    · have e : flt lv (a :: l) = a :: flt lv l := if_pos z
      rw [e, es, es]
      by_cases q : X k a.1 = true
      · have lx := hX k a.1 h1 h2 q
        have e5 : flt lv ((a.1 + 1, a.2) :: suc (X k) l) = (a.1 + 1, a.2) :: flt lv (suc (X k) l) := if_pos (by
          show lv (a.1 + 1) = true
          rw [← lx]
          exact z)
        rw [if_pos q, if_pos q, e5, i]
      · rw [if_neg q, if_neg q, i]
    · have e : flt lv (a :: l) = flt lv l := if_neg z
      rw [e, es, i]
      by_cases q : X k a.1 = true
      · have lx := hX k a.1 h1 h2 q
        have e5 : flt lv ((a.1 + 1, a.2) :: suc (X k) l) = flt lv (suc (X k) l) := if_neg (by
          show ¬ lv (a.1 + 1) = true
          rw [← lx]
          exact z)
        rw [if_pos q, e5]
      · rw [if_neg q]
/-- what a place's threads are like -/
theorem stb_m (hw : wfP P n) (h0 : 0 < n) (h : ∀ x, x ∈ rs → x.1 < n) : (∀ x, x ∈ (stb P n lv k rs ms b).1 → x.1 < n ∧ (P x.1).1 = 0) ∧ (stb P n lv k rs ms b).1.length ≤ n := by
  obtain ⟨d1, d2⟩ := dfsL_cnf (E := noE) (k := k) hw (rts k rs ms) (fun _ => false) (rts_n h0 h)
  refine ⟨fun x hx => ?_, ?_⟩
  · obtain ⟨m1, m2⟩ := cut_m _ hx
    obtain ⟨d3, d4⟩ := d2 x.1 x.2 (flt_m _ m1)
    exact ⟨d3, d4.resolve_right m2⟩
  · have c1 := cut_len (P := P) (flt lv (dfsL P noE k n (rts k rs ms) (fun _ => false)).1)
    have c2 := flt_len (lv := lv) (dfsL P noE k n (rts k rs ms) (fun _ => false)).1
    have c3 := cnf_le (A := fun _ => false) n
    show (cut P (flt lv (dfsL P noE k n (rts k rs ms) (fun _ => false)).1)).1.length ≤ n
    omega
theorem suc_in (hw : wfP P n) : ∀ l : LFs, (∀ x, x ∈ l → x.1 < n ∧ (P x.1).1 = 0) → ∀ x, x ∈ suc X1 l → x.1 < n := fun l => by
  induction l with
  | nil => exact fun _ x hx => by cases hx
  | cons a l il =>
    intro h x hx
    have i := il (fun x hx => h x (List.mem_cons_of_mem _ hx))
    obtain ⟨h1, h2⟩ := h a (List.mem_cons_self ..)
    have w1 : a.1 + 1 < n := by
      rcases hw a.1 h1 with q | q | q | q | q | q <;> omega
    unfold suc at hx
    by_cases q : X1 a.1 = true
    · rw [if_pos q] at hx
      rcases List.mem_cons.mp hx with z | z
      · rw [z]
        exact w1
      · exact i x z
    · rw [if_neg q] at hx
      exact i x hx
theorem stm_m (hw : wfP P n) (h0 : 0 < n) : ∀ k, (∀ x, x ∈ (stm P n X lv an k).1 → x.1 < n ∧ (P x.1).1 = 0) ∧ (stm P n X lv an k).1.length ≤ n := fun k => by
  induction k with
  | zero => exact stb_m hw h0 (fun x hx => by cases hx)
  | succ k ih => exact stb_m hw h0 (suc_in hw _ ih.1)
/-- threads that lead to nothing may be left out -/
theorem stb_live (hw : wfP P n) (h0 : 0 < n) (hl : lvP P n lv) (hX : lvX P n X lv) (h1 : ∀ x, x ∈ rs → x.1 < n) (h2 : ∀ x, x ∈ rs2 → x.1 < n) (hf : flt lv rs = flt lv rs2) : stb P n lv k rs2 ms b = (flt lv (stb P n (fun _ => true) k rs ms b).1, (stb P n (fun _ => true) k rs ms b).2) := by
  have f2 : flt lv (rts k rs ms) = flt lv (rts k rs2 ms) := by
    unfold rts
    by_cases z : ms = true
    · rw [if_pos z, if_pos z, flt_app, flt_app, hf]
    · rw [if_neg z, if_neg z, hf]
  obtain ⟨l1, _⟩ := dfsL_live (E := noE) (k := k) hw hl (rts k rs ms) (rts k rs2 ms) (fun _ => false) (fun _ => false) (rts_n h0 h1) (rts_n h0 h2) f2 (fun _ _ => rfl)
  have m1 := (dfsL_cnf (E := noE) (k := k) hw (rts k rs ms) (fun _ => false) (rts_n h0 h1)).2
  obtain ⟨c1, c2, _⟩ := cut_flt (P := P) (X := X) (k := k) (dfsL P noE k n (rts k rs ms) (fun _ => false)).1 (fun x hx => m1 x.1 x.2 hx) hl hX
  unfold stb
  rw [flt_t, ← l1, c1, c2]
theorem stm_live (hw : wfP P n) (h0 : 0 < n) (hl : lvP P n lv) (hX : lvX P n X lv) : ∀ k, stm P n X lv an k = (flt lv (stm P n X (fun _ => true) an k).1, (stm P n X (fun _ => true) an k).2) := fun k => by
  induction k with
  | zero => exact stb_live hw h0 hl hX (fun x hx => by cases hx) (fun x hx => by cases hx) rfl
  | succ k ih =>
    obtain ⟨m1, _⟩ := stm_m (X := X) (lv := fun _ => true) (an := an) hw h0 k
    obtain ⟨m2, _⟩ := stm_m (X := X) (lv := lv) (an := an) hw h0 k
    rw [stm_s, stm_s]
    have e2 : (stm P n X lv an k).2 = (stm P n X (fun _ => true) an k).2 := by rw [ih]
    have e1 : (stm P n X lv an k).1 = flt lv (stm P n X (fun _ => true) an k).1 := by rw [ih]
    rw [e2]
    refine stb_live hw h0 hl hX (suc_in hw _ m1) (suc_in hw _ m2) ?_
    rw [e1, suc_flt hX _ m1, flt_f]
/-- only what has come matters -/
theorem suc_c {X1 X2 : SNs} : ∀ l : LFs, (∀ x, x ∈ l → X1 x.1 = X2 x.1) → suc X1 l = suc X2 l := fun l => by
  induction l with
  | nil => exact fun _ => rfl
  | cons a l il =>
    intro h
    unfold suc
    rw [h a (List.mem_cons_self ..), il (fun x hx => h x (List.mem_cons_of_mem _ hx))]
theorem stm_X (hw : wfP P n) (h0 : 0 < n) : ∀ k, (∀ j i, j < k → i < n → (P i).1 = 0 → X j i = X2 j i) → stm P n X lv an k = stm P n X2 lv an k := fun k => by
  induction k with
  | zero => exact fun _ => rfl
  | succ k ih =>
    intro h
    obtain ⟨m1, _⟩ := stm_m (X := X2) (lv := lv) (an := an) hw h0 k
    rw [stm_s, stm_s, ih (fun j i h1 h2 h3 => h j i (by omega) h2 h3), suc_c _ (fun x hx => h k x.1 (by omega) (m1 x hx).1 (m1 x hx).2)]
end ORF
