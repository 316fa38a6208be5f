/-! AN INVOKE: the evaluator's is the machine's -/
theorem ev_goodIn {TS : List Jvm.Cond} (hTS : ∀ w ∈ TS, goodWord w = true) {L : List Jvm.Cond} (hL : ∀ w ∈ L, w ∈ TS) : GoodIn TS L := fun w hw => ⟨hL w hw, good_of_word (hTS w (hL w hw))⟩
theorem ev_cw_nil {Y : Nat → MethodName} {B : Nat → ByteArray} {mi : Nat} {M : ev_M} (h : M.2.2.2.2.2.2.2 = []) : ev_cw Y B mi M = Jvm.Cond.code (Y mi) (B mi) M.2.1 M.2.2.2.2.2.2.1 := by
  unfold ev_cw
  rw [h]
theorem ev_cw_cons {Y : Nat → MethodName} {B : Nat → ByteArray} {mi : Nat} {M : ev_M} (h : M.2.2.2.2.2.2.2 ≠ []) : ev_cw Y B mi M = Jvm.Cond.codeWith (Y mi) (B mi) M.2.1 M.2.2.2.2.2.2.1 (M.2.2.2.2.2.2.2.map (fun z => z.1)) := by
  unfold ev_cw
  split
  · next e => exact absurd e h
  · next q l e => rw [e]
theorem ev_hd_ok {E : String} {pc t : Nat} : ∀ {l : List ((Nat × Nat × Nat × Nat) × String)}, ev_hd E pc l = some t → ∃ (pre suf : List ((Nat × Nat × Nat × Nat) × String)) (q : (Nat × Nat × Nat × Nat) × String), l = pre ++ q :: suf ∧ q.2 = E ∧ q.1.1 ≤ pc ∧ pc < q.1.2.1 ∧ q.1.2.2.1 = t ∧ ∀ z ∈ pre, (z.1.1 ≤ pc ∧ pc < z.1.2.1) → z.2 ≠ E
  | [], h => by cases h
  | q :: l, h => by
    unfold ev_hd at h
    split at h
    · next hc =>
      rw [Bool.and_eq_true, Bool.and_eq_true] at hc
      exact ⟨[], l, q, rfl, of_decide_eq_true hc.2, Nat.le_of_ble_eq_true hc.1.1, by simpa [Nat.blt_eq] using hc.1.2, Option.some.inj h, fun z hz => by cases hz⟩
    · next hc =>
      obtain ⟨pre, suf, q2, h1, h2, h3, h4, h5, h6⟩ := ev_hd_ok h
      refine ⟨q :: pre, suf, q2, by rw [h1]; rfl, h2, h3, h4, h5, fun z hz hcov => ?_⟩
      rcases List.mem_cons.mp hz with rfl | hz
      · intro e
        have : (Nat.ble z.1.1 pc && Nat.blt pc z.1.2.1 && decide (z.2 = E)) = true := by
          rw [Bool.and_eq_true, Bool.and_eq_true]
          exact ⟨⟨Nat.ble_eq.mpr hcov.1, by simpa [Nat.blt_eq] using hcov.2⟩, decide_eq_true e⟩
        rw [this] at hc
        cases hc
      · exact h6 z hz hcov
section EVI
variable {p : Program} {l : Launch} {e : Env} {R : Room} {s : State} {m : MethodId} {args : Array Value} {below : List Frame} {meth : Method} {c : Code} {H : Heap} {locs : List Loc} {cells slots : Nat} {Q : State → Prop}
variable {cc : ByteArray} {D : va_G} {cl : List vw_C} {A : Nat → Prop}
/-- what is fixed in a method's body -/
def ev_Fix (l : Launch) (TS nw : List Jvm.Cond) (nc : List (String × String)) (sr : List (String × Nat × String)) (cl : List vw_C) (ov : List FieldType) (CN : Nat → String) (PE : Nat → ev_T) (Y : Nat → MethodName) (B : Nat → ByteArray) (P : Nat → Option ev_M) (L : Nat → Nat → Option ev_L) (M : ev_M) (p : Program) (R : Room) (s : State) (m : MethodId) (args : Array Value) (c : Code) (cc : ByteArray) (D : va_G) (A : Nat → Prop) (d : Nat) (call : Nat → List Value → List ev_E → Nat → Option ev_Z) : Prop :=
  p.tables.exec = Jvm.exec ∧ c.code = cc ∧ c.maxLocals = M.2.1 ∧ s.vm.findClass (CN M.2.2.1) = some m.cls ∧ (∀ w ∈ TS, w.before args s = true) ∧ (∀ w ∈ TS, goodWord w = true) ∧ ev_ovOk ov ∧ (∀ w ∈ nw, ev_sw w = true) ∧ va_K D cl [] s ∧ (∀ q, s.heap.size ≤ q → A q) ∧ ev_F ov nw nc sr A s s.heap ∧ (∀ mi M', P mi = some M' → ev_mOk TS nw nc cl ov CN PE Y B mi M') ∧ (∀ x q, L M.2.2.1 x = some q → ev_lOk TS nw CN Y P M.2.2.1 x q) ∧ (∀ mi M' as h n z, P mi = some M' → call mi as h n = some z → ev_Con l TS nw nc sr cl ov Y B d mi M' as h n z) ∧ d + 1 ≤ R.frames ∧ 39 * (d + 1) ≤ R.locals ∧ (∀ ci q, cl[ci]? = some q → q.1 = CN ci)
/-- the handlers of a body's table -/
def ev_Hd (TS nw : List Jvm.Cond) (nc : List (String × String)) (CN : Nat → String) (M : ev_M) (c : Code) : Prop := (M.2.2.2.2.2.2.2 ≠ [] → c.exceptionTable.toList = tableOf (M.2.2.2.2.2.2.2.map (fun z => z.1))) ∧ ∀ q ∈ M.2.2.2.2.2.2.2, q.1.2.2.2 ≠ 0 ∧ Jvm.Cond.classLink (CN M.2.2.1) q.1.2.2.2 q.2 ∈ TS ∧ Jvm.Cond.castable q.2 q.2 ∈ nw ∧ ∀ q2 ∈ M.2.2.2.2.2.2.2, q2.2 = q.2 ∨ (q.2, q2.2) ∈ nc
theorem ev_mn (isMin : Bool) (x y : Int32) : ev_mm isMin x y = if isMin = true then (if y < x then y else x) else (if x < y then y else x) := by
  cases isMin <;> rfl
theorem ev_recv_ok {h : List ev_E} {ci : Nat} {as : List Value} (e : ev_recv h ci as = true) : ∃ k t fs, as = .ref k :: t ∧ h[k]? = some (.inr (ci, fs)) := by
  unfold ev_recv at e
  split at e
  · next k t =>
    unfold ev_isOf at e
    split at e
    · next c fs hk =>
      have := Nat.eq_of_beq_eq_true e
      subst this
      exact ⟨k, t, fs, rfl, hk⟩
    · cases e
  · cases e
theorem ev_cpy_rd (d : Value) (l0 l1 : List (Nat × Value)) (sp dp n j : Nat) : ev_rd d (ev_cpy d l0 l1 sp dp n) j = if dp ≤ j ∧ j < dp + n then ev_rd d l0 (sp + (j - dp)) else ev_rd d l1 j := by
  have key : ∀ (L : List Nat), ev_rd d (L.map (fun t => (dp + t, ev_rd d l0 (sp + t))) ++ l1) j = if (∃ t ∈ L, dp + t = j) then ev_rd d l0 (sp + (j - dp)) else ev_rd d l1 j := by
    intro L
    induction L with
    | nil => simp
    | cons t L ih =>
      rw [List.map_cons, List.cons_append, ev_rd_cons, ih]
      by_cases h : j = dp + t
      · rw [if_pos h, if_pos ⟨t, List.mem_cons_self, h.symm⟩]
        congr 1
        omega
      · rw [if_neg h]
        by_cases h2 : ∃ t' ∈ L, dp + t' = j
        · rw [if_pos h2, if_pos]
          obtain ⟨t', a1, a2⟩ := h2
          exact ⟨t', List.mem_cons_of_mem _ a1, a2⟩
        · rw [if_neg h2, if_neg]
          rintro ⟨t', a1, a2⟩
          rcases List.mem_cons.mp a1 with rfl | a1
          · exact h a2.symm
          · exact h2 ⟨t', a1, a2⟩
  unfold ev_cpy
  rw [key]
  by_cases h : dp ≤ j ∧ j < dp + n
  · rw [if_pos h, if_pos ⟨j - dp, List.mem_range.mpr (by omega), by omega⟩]
  · rw [if_neg h, if_neg]
    rintro ⟨t, a1, a2⟩
    have := List.mem_range.mp a1
    omega
end EVI
