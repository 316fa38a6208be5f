/-! THE CHECKS of the tables, and all that is fixed for a launch -/
def ev_h0 (mi : Nat) : Bool := match ev_P mi with
  | some M => M.2.2.2.2.2.2.2.isEmpty
  | none => true
def ev_h1 (mi : Nat) : Bool := match ev_P mi with
  | some M => !M.2.2.2.2.2.2.2.isEmpty
  | none => true
theorem ev_h0_ok {mi : Nat} (h : ev_h0 mi = true) : ∀ M, ev_P mi = some M → M.2.2.2.2.2.2.2 = [] := fun M hM => by
  unfold ev_h0 at h
  rw [hM] at h
  exact List.isEmpty_iff.mp h
theorem ev_h1_ok {mi : Nat} (h : ev_h1 mi = true) : ∀ M, ev_P mi = some M → M.2.2.2.2.2.2.2 ≠ [] := fun M hM e => by
  unfold ev_h1 at h
  rw [hM] at h
  have h : (!M.2.2.2.2.2.2.2.isEmpty) = true := h
  rw [e] at h
  cases h
def ev_nwB (i : Nat) (w : Jvm.Cond) : Bool := decide (ev_nw[i]? = some w)
theorem ev_nwB_ok {i : Nat} {w : Jvm.Cond} (h : ev_nwB i w = true) : w ∈ ev_nw := List.mem_of_getElem? (of_decide_eq_true h)
def ev_lB (o x : Nat) (a : Nat × Nat × Nat × Nat × Nat × Nat × Nat) : Bool := match a with
  | (0, mi, _, i1, i2, i3, _) => ev_hb i1 (.methodLink (ev_CN o) x (ev_Y mi)) && (ev_hb i2 (.instanceMethod (ev_Y mi)) && (ev_hb i3 (.selects (ev_Y mi).cls (ev_Y mi) (ev_Y mi)) && ev_h0 mi))
  | (1, mi, _, i1, i2, _, _) => ev_hb i1 (.methodLink (ev_CN o) x (ev_Y mi)) && (ev_hb i2 (.instanceMethod (ev_Y mi)) && (decide ((ev_Y mi).name = "<init>") && ev_h0 mi))
  | (2, mi, _, i1, i2, _, _) => ev_hb i1 (.methodLink (ev_CN o) x (ev_Y mi)) && (ev_hb i2 (.static (ev_Y mi)) && ev_h0 mi)
  | (4, mi, _, i1, i2, _, _) => ev_nwB i1 (.methodLinkNest (ev_CN o) x (ev_Y mi) "MendBench") && (ev_hb i2 (.instanceMethod (ev_Y mi)) && (decide ((ev_Y mi).name = "<init>") && ev_h0 mi))
  | (5, mi, _, i1, i2, _, _) => ev_nwB i1 (.methodLinkNest (ev_CN o) x (ev_Y mi) "MendBench") && (ev_hb i2 (.static (ev_Y mi)) && ev_h0 mi)
  | (6, _, _, i1, i2, i3, _) => ev_hb i1 (.methodLink (ev_CN o) x Lib.objectInit) && (ev_hb i2 (.instanceMethod Lib.objectInit) && ev_hb i3 (.code Lib.objectInit ⟨#[0xb1]⟩ 1 none))
  | (7, _, _, i1, i2, i3, i4) => ev_hb i1 (.methodLink (ev_CN o) x arraycopyName) && (ev_hb i2 (.native arraycopyName) && (ev_hb i3 (.static arraycopyName) && ev_hb i4 (.initialized "java/lang/System")))
  | (8, mi, _, i1, i2, _, _) => ev_hb i1 (.methodLink (ev_CN o) x (ev_Y mi)) && (ev_hb i2 (.static (ev_Y mi)) && ev_h1 mi)
  | (9, _, _, i1, i2, i3, i4) => ev_hb i1 (.methodLink (ev_CN o) x Lib.Math.min.name) && (ev_hb i2 (.static Lib.Math.min.name) && (ev_hb i3 (.initialized "java/lang/Math") && ev_hb i4 (.code Lib.Math.min.name Lib.Math.min.code 2 (some .int))))
  | (10, _, _, i1, i2, i3, i4) => ev_hb i1 (.methodLink (ev_CN o) x Lib.Math.max.name) && (ev_hb i2 (.static Lib.Math.max.name) && (ev_hb i3 (.initialized "java/lang/Math") && ev_hb i4 (.code Lib.Math.max.name Lib.Math.max.code 2 (some .int))))
  | _ => false
theorem ev_lB_ok {o x : Nat} {a : Nat × Nat × Nat × Nat × Nat × Nat × Nat} (h : ev_lB o x a = true) : ev_lOk ev_TS ev_nw ev_CN ev_Y ev_P o x (a.1, a.2.1, a.2.2.1) := by
  unfold ev_lB at h
  split at h
  · rw [Bool.and_eq_true, Bool.and_eq_true, Bool.and_eq_true] at h
    exact ⟨ev_hb_in h.1 rfl, ev_hb_in h.2.1 rfl, ev_hb_in h.2.2.1 rfl, ev_h0_ok h.2.2.2⟩
  · rw [Bool.and_eq_true, Bool.and_eq_true, Bool.and_eq_true] at h
    exact ⟨ev_hb_in h.1 rfl, ev_hb_in h.2.1 rfl, of_decide_eq_true h.2.2.1, ev_h0_ok h.2.2.2⟩
  · rw [Bool.and_eq_true, Bool.and_eq_true] at h
    exact ⟨ev_hb_in h.1 rfl, ev_hb_in h.2.1 rfl, ev_h0_ok h.2.2⟩
  · rw [Bool.and_eq_true, Bool.and_eq_true, Bool.and_eq_true] at h
    exact ⟨⟨_, ev_nwB_ok h.1⟩, ev_hb_in h.2.1 rfl, of_decide_eq_true h.2.2.1, ev_h0_ok h.2.2.2⟩
  · rw [Bool.and_eq_true, Bool.and_eq_true] at h
    exact ⟨⟨_, ev_nwB_ok h.1⟩, ev_hb_in h.2.1 rfl, ev_h0_ok h.2.2⟩
  · rw [Bool.and_eq_true, Bool.and_eq_true] at h
    exact ⟨ev_hb_in h.1 rfl, ev_hb_in h.2.1 rfl, ev_hb_in h.2.2 rfl⟩
  · rw [Bool.and_eq_true, Bool.and_eq_true, Bool.and_eq_true] at h
    exact ⟨ev_hb_in h.1 rfl, ev_hb_in h.2.1 rfl, ev_hb_in h.2.2.1 rfl, ev_hb_in h.2.2.2 rfl⟩
  · rw [Bool.and_eq_true, Bool.and_eq_true] at h
    exact ⟨ev_hb_in h.1 rfl, ev_hb_in h.2.1 rfl, ev_h1_ok h.2.2⟩
  · rw [Bool.and_eq_true, Bool.and_eq_true, Bool.and_eq_true] at h
    exact ⟨ev_hb_in h.1 rfl, ev_hb_in h.2.1 rfl, ev_hb_in h.2.2.1 rfl, ev_hb_in h.2.2.2 rfl⟩
  · rw [Bool.and_eq_true, Bool.and_eq_true, Bool.and_eq_true] at h
    exact ⟨ev_hb_in h.1 rfl, ev_hb_in h.2.1 rfl, ev_hb_in h.2.2.1 rfl, ev_hb_in h.2.2.2 rfl⟩
  · cases h
def ev_linksB (o : Nat) : Bool := (ev_LT o).all (fun l => l.all fun q => ev_lB o q.1 q.2)
theorem ev_linksB_ok {o : Nat} (h : ev_linksB o = true) : ∀ x q, ev_Lk o x = some q → ev_lOk ev_TS ev_nw ev_CN ev_Y ev_P o x q := fun x q e => by
  unfold ev_Lk at e
  split at e
  · next a ha =>
    cases e
    exact ev_lB_ok (ev_bk_all (f := fun x a => ev_lB o x a) h ha)
  · cases e
/-- a method's own facts, but for its instructions -/
def ev_cwB (M : ev_M) (y : MethodName) (b : ByteArray) : Jvm.Cond := match M.2.2.2.2.2.2.2 with
  | [] => .code y b M.2.1 M.2.2.2.2.2.2.1
  | q :: l => .codeWith y b M.2.1 M.2.2.2.2.2.2.1 ((q :: l).map (fun z => z.1))
def ev_hxB (d : Nat) (w : Jvm.Cond) : Bool := match ev_as ev_hx d with
  | some i => ev_hb i w
  | none => false
def ev_hsB (o : Nat) (hs : List ((Nat × Nat × Nat × Nat) × String)) : Bool := hs.all fun q => !(Nat.beq q.1.2.2.2 0) && (ev_hxB q.1.2.2.2 (.classLink (ev_CN o) q.1.2.2.2 q.2) && (decide (Jvm.Cond.castable q.2 q.2 ∈ ev_nw) && hs.all fun q2 => decide (q2.2 = q.2) || decide ((q.2, q2.2) ∈ ev_nc)))
def ev_mB (r : ev_Rc) : Bool := Nat.ble r.1.2.1 20 && (decide (r.2.1.cls = ev_CN r.1.2.2.1) && ((!r.1.2.2.2.1 || decide (r.2.1.name = "<init>")) && (plainName r.2.1.cls && (decide (r.2.1.cls ≠ "java/lang/invoke/MethodHandle") && (decide (r.2.1.cls ≠ "java/lang/invoke/VarHandle") && (decide ((parseMethodDescriptor r.2.1.desc).map (fun d => d.parameters.length) = some r.1.2.2.2.2.2.1) && (ev_hb r.2.2.2.2 (.initialized r.2.1.cls) && ((!decide (r.2.1.name = "<init>") || decide (r.1.2.2.2.2.2.2.1 = none)) && ev_hsB r.1.2.2.1 r.1.2.2.2.2.2.2.2))))))))
theorem ev_hsB_ok {o : Nat} {hs : List ((Nat × Nat × Nat × Nat) × String)} (h : ev_hsB o hs = true) : ∀ q ∈ hs, q.1.2.2.2 ≠ 0 ∧ Jvm.Cond.classLink (ev_CN o) q.1.2.2.2 q.2 ∈ ev_TS ∧ Jvm.Cond.castable q.2 q.2 ∈ ev_nw ∧ ∀ q2 ∈ hs, q2.2 = q.2 ∨ (q.2, q2.2) ∈ ev_nc := fun q hq => by
  have h1 := List.all_eq_true.mp h q hq
  rw [Bool.and_eq_true, Bool.and_eq_true, Bool.and_eq_true] at h1
  obtain ⟨g1, g2, g3, g4⟩ := h1
  refine ⟨fun e => ?_, ?_, of_decide_eq_true g3, fun q2 hq2 => ?_⟩
  · rw [e] at g1; cases g1
  · unfold ev_hxB at g2
    split at g2
    · exact ev_hb_in g2 rfl
    · cases g2
  · have g5 := List.all_eq_true.mp g4 q2 hq2
    rw [Bool.or_eq_true] at g5
    rcases g5 with g5 | g5
    · exact Or.inl (of_decide_eq_true g5)
    · exact Or.inr (of_decide_eq_true g5)
theorem ev_cw_good (M : ev_M) (y : MethodName) (b : ByteArray) : goodWord (ev_cwB M y b) = true := by
  unfold ev_cwB
  split <;> rfl
theorem ev_mB_ok {mi : Nat} {r : ev_Rc} (hr : ev_rec mi = some r) (h : ev_mB r = true) (h8 : ev_cwB r.1 r.2.1 r.2.2.1 ∈ lw_tbl) (hd : ∀ pc i len, r.1.1 pc = some (i, len) → decode r.2.2.1 pc = .ok (i, len)) (hp : ev_poolOk ev_TS vwCl ev_ov (ev_CN r.1.2.2.1) (ev_PEs r.1.2.2.1)) : ev_mOk ev_TS ev_nw ev_nc vwCl ev_ov ev_CN ev_PEs ev_Y ev_Bc mi r.1 := by
  have hY : ev_Y mi = r.2.1 := by unfold ev_Y; rw [hr]
  have hB : ev_Bc mi = r.2.2.1 := by unfold ev_Bc; rw [hr]
  unfold ev_mB at h
  simp only [Bool.and_eq_true, Bool.or_eq_true] at h
  obtain ⟨h1, h2, h3, h4, h5, h6, h7, h9, h10, h11⟩ := h
  refine ⟨by rw [hB]; exact hd, Nat.le_of_ble_eq_true h1, by rw [hY]; exact of_decide_eq_true h2, fun e => ?_, by rw [hY]; exact h4, ⟨by rw [hY]; exact of_decide_eq_true h5, by rw [hY]; exact of_decide_eq_true h6, by rw [hY]; exact of_decide_eq_true h7⟩, ⟨?_, ev_hsB_ok h11⟩, ev_hb_in (by rw [hY]; exact h9) rfl, fun e => ?_, hp⟩
  · rw [hY]
    rcases h3 with h3 | h3
    · rw [e] at h3; cases h3
    · exact of_decide_eq_true h3
  · have e : ev_cw ev_Y ev_Bc mi r.1 = ev_cwB r.1 r.2.1 r.2.2.1 := by
      unfold ev_cw ev_cwB
      rw [hY, hB]
      rfl
    rw [e]
    exact List.mem_filter.mpr ⟨h8, ev_cw_good _ _ _⟩
  · rcases h10 with h10 | h10
    · rw [hY] at e
      rw [e] at h10
      cases h10
    · exact of_decide_eq_true h10
/-- throws -/
def ev_xinB (w : Jvm.Cond) : Bool := (goodWord w && decide (w ∈ lw_tbl)) || decide (w ∈ ev_nw)
theorem ev_xinB_ok {w : Jvm.Cond} (h : ev_xinB w = true) : w ∈ ev_TS ∨ w ∈ ev_nw := by
  unfold ev_xinB at h
  rw [Bool.or_eq_true, Bool.and_eq_true] at h
  rcases h with h | h
  · exact Or.inl (List.mem_filter.mpr ⟨of_decide_eq_true h.2, h.1⟩)
  · exact Or.inr (of_decide_eq_true h)
/-- the words of a class's fields -/
def ev_uB (C : String) (T : u_T) : Nat → List Nat → Bool
  | _, [] => true
  | k, i :: l => ev_hb i (u_lay C T k) && ev_uB C T (k + 1) l
theorem ev_uB_ok {C : String} {T : u_T} : ∀ {l : List Nat} {k j : Nat}, ev_uB C T k l = true → j < l.length → u_lay C T (k + j) ∈ ev_TS
  | [], k, j, _, hj => absurd hj (Nat.not_lt_zero _)
  | i :: l, k, j, h, hj => by
    have h : (ev_hb i (u_lay C T k) && ev_uB C T (k + 1) l) = true := h
    rw [Bool.and_eq_true] at h
    cases j with
    | zero =>
      refine ev_hb_in h.1 ?_
      unfold u_lay
      split <;> rfl
    | succ j =>
      rw [show k + (j + 1) = k + 1 + j by omega]
      exact ev_uB_ok h.2 (by simpa using hj)
theorem ev_uws {C : String} {T : u_T} {N : Nat} {l : List Nat} (h : ev_uB C T 0 l = true) (hl : l.length = N) : ∀ w ∈ u_ws C T N, w ∈ ev_TS := fun w hw => by
  obtain ⟨k, hk, rfl⟩ := List.mem_map.mp hw
  have := ev_uB_ok (j := k) h (by rw [hl]; exact List.mem_range.mp hk)
  rw [Nat.zero_add] at this
  exact this
