/-! TABLES: how they are looked up, and checked -/
def ev_tb (t : List (List (Option (Instr × Nat)))) (pc : Nat) : Option (Instr × Nat) := match t[pc / 32]? with
  | some l => (match l[pc % 32]? with
    | some (some q) => some q
    | _ => none)
  | none => none
def ev_wl (l : List UInt8) : ByteArray := ⟨⟨l⟩⟩
def ev_w1 (bs : List UInt8) (q : Instr × Nat) : Bool := match bs with
  | [] => false
  | x :: _ => ev_ok1 x.toNat && decide (decode (ev_wl (bs.take 8)) 0 = .ok q)
theorem ev_dec_eq (b : ByteArray) (pc : Nat) : decode b pc = (Decoder.instr pc b pc).bind (fun z => .ok (z.1, z.2 - pc)) := rfl
theorem ev_w1_ok {b : ByteArray} {pc : Nat} {q : Instr × Nat} (h : ev_w1 (b.data.toList.drop pc) q = true) : decode b pc = .ok q := by
  unfold ev_w1 at h
  split at h
  · cases h
  · next x l hl =>
    rw [Bool.and_eq_true] at h
    obtain ⟨h1, h2⟩ := h
    have h2 := of_decide_eq_true h2
    have hw : ev_win (ev_wl ((b.data.toList.drop pc).take 8)) b pc := by
      intro p hp
      have hp0 : p < ((b.data.toList.drop pc).take 8).length := hp
      have hp1 := hp0
      rw [List.length_take, List.length_drop] at hp1
      have hs : b.data.toList.length = b.size := rfl
      have h3 : pc + p < b.size := by omega
      refine ⟨h3, ?_⟩
      have e : ((b.data.toList.drop pc).take 8)[p]'hp0 = b.data.toList[pc + p]'(by omega) := by
        rw [List.getElem_take, List.getElem_drop]
      exact e.symm
    rw [hl] at hw
    rw [hl] at h2
    rw [ev_dec_eq] at h2
    cases h3 : Decoder.instr 0 (ev_wl ((x :: l).take 8)) 0 with
    | error e => rw [h3] at h2; cases h2
    | ok z =>
      obtain ⟨i, n⟩ := z
      rw [h3] at h2
      have h2 : (Except.ok (i, n - 0) : Except DecodeError (Instr × Nat)) = .ok q := h2
      cases h2
      rw [ev_dec_eq, ev_sim_body hw ?_ h3]
      · show (Except.ok (i, pc + n - pc) : Except DecodeError (Instr × Nat)) = .ok (i, n - 0)
        rw [Nat.add_sub_cancel_left, Nat.sub_zero]
      · intro y p1 hy
        rw [ev_u1_eq] at hy
        split at hy
        · cases hy
          exact h1
        · cases hy
def ev_decR (b : ByteArray) : Nat → List UInt8 → List (Option (Instr × Nat)) → Bool
  | _, _, [] => true
  | pc, bs, none :: l => ev_decR b (pc + 1) bs.tail l
  | pc, bs, some q :: l => (ev_w1 bs q || decide (decode b pc = .ok q)) && ev_decR b (pc + 1) bs.tail l
def ev_decT (b : ByteArray) : Nat → List UInt8 → List (List (Option (Instr × Nat))) → Bool
  | _, _, [] => true
  | pc, bs, l :: t => ev_decR b pc bs l && ev_decT b (pc + 32) (bs.drop 32) t
def ev_dec (b : ByteArray) (t : List (List (Option (Instr × Nat)))) : Bool := ev_decT b 0 b.data.toList t
theorem ev_decR_ok {b : ByteArray} {q : Instr × Nat} : ∀ {l : List (Option (Instr × Nat))} {pc j : Nat}, ev_decR b pc (b.data.toList.drop pc) l = true → l[j]? = some (some q) → decode b (pc + j) = .ok q
  | [], _, _, _, h => by simp at h
  | none :: l, pc, j, h, hj => by
    have h : ev_decR b (pc + 1) (b.data.toList.drop pc).tail l = true := h
    rw [List.tail_drop] at h
    cases j with
    | zero => rw [List.getElem?_cons_zero] at hj; cases hj
    | succ j =>
      rw [List.getElem?_cons_succ] at hj
      have := ev_decR_ok h hj
      rw [show pc + (j + 1) = pc + 1 + j by omega]
      exact this
  | some x :: l, pc, j, h, hj => by
    have h : ((ev_w1 (b.data.toList.drop pc) x || decide (decode b pc = .ok x)) && ev_decR b (pc + 1) (b.data.toList.drop pc).tail l) = true := h
    rw [Bool.and_eq_true, Bool.or_eq_true, List.tail_drop] at h
    cases j with
    | zero =>
      rw [List.getElem?_cons_zero] at hj
      cases hj
      rcases h.1 with h1 | h1
      · exact ev_w1_ok h1
      · exact of_decide_eq_true h1
    | succ j =>
      rw [List.getElem?_cons_succ] at hj
      have := ev_decR_ok h.2 hj
      rw [show pc + (j + 1) = pc + 1 + j by omega]
      exact this
theorem ev_dec_at {b : ByteArray} {q : Instr × Nat} : ∀ {t : List (List (Option (Instr × Nat)))} {pc r j : Nat} {l : List (Option (Instr × Nat))}, ev_decT b pc (b.data.toList.drop pc) t = true → t[r]? = some l → l[j]? = some (some q) → decode b (pc + 32 * r + j) = .ok q
  | [], _, _, _, _, _, h, _ => by simp at h
  | x :: t, pc, r, j, l, h, hr, hj => by
    have h : (ev_decR b pc (b.data.toList.drop pc) x && ev_decT b (pc + 32) ((b.data.toList.drop pc).drop 32) t) = true := h
    rw [Bool.and_eq_true, List.drop_drop] at h
    cases r with
    | zero =>
      rw [List.getElem?_cons_zero] at hr
      cases hr
      exact ev_decR_ok h.1 hj
    | succ r =>
      rw [List.getElem?_cons_succ] at hr
      have := ev_dec_at h.2 hr hj
      rw [show pc + 32 * (r + 1) + j = pc + 32 + 32 * r + j by omega]
      exact this
theorem ev_dec_ok {b : ByteArray} {t : List (List (Option (Instr × Nat)))} (h : ev_dec b t = true) (pc : Nat) (i : Instr) (len : Nat) (e : ev_tb t pc = some (i, len)) : decode b pc = .ok (i, len) := by
  unfold ev_tb at e
  split at e
  · next l hl =>
    split at e
    · next q hq =>
      cases e
      have := ev_dec_at h hl hq
      rw [show 0 + 32 * (pc / 32) + pc % 32 = pc by omega] at this
      exact this
    · cases e
  · cases e
def ev_as {α : Type} : List (Nat × α) → Nat → Option α
  | [], _ => none
  | q :: l, x => match Nat.beq q.1 x with
    | true => some q.2
    | false => ev_as l x
/-- by sixteens -/
def ev_bk {α : Type} (t : List (List (Nat × α))) (x : Nat) : Option α := match t[x / 16]? with
  | some l => ev_as l x
  | none => none
theorem ev_as_mem {α : Type} {x : Nat} {a : α} : ∀ {l : List (Nat × α)}, ev_as l x = some a → (x, a) ∈ l
  | [], h => by cases h
  | q :: l, h => by
    unfold ev_as at h
    split at h
    · next e =>
      cases h
      have e := Nat.eq_of_beq_eq_true e
      rw [← e]
      exact List.mem_cons_self
    · exact List.mem_cons_of_mem _ (ev_as_mem h)
theorem ev_bk_all {α : Type} {t : List (List (Nat × α))} {f : Nat → α → Bool} (h : t.all (fun l => l.all fun q => f q.1 q.2) = true) {x : Nat} {a : α} (e : ev_bk t x = some a) : f x a = true := by
  unfold ev_bk at e
  split at e
  · next l hl =>
    have h1 := List.all_eq_true.mp h l (List.mem_of_getElem? hl)
    exact List.all_eq_true.mp h1 _ (ev_as_mem e)
  · cases e
def ev_TS : List Jvm.Cond := lw_tbl.filter goodWord
theorem ev_TS_good : ∀ w ∈ ev_TS, goodWord w = true := fun w h => (List.mem_filter.mp h).2
def ev_hb (i : Nat) (w : Jvm.Cond) : Bool := decide (lw_tbl[i]? = some w)
theorem ev_hb_in {i : Nat} {w : Jvm.Cond} (h : ev_hb i w = true) (g : goodWord w = true) : w ∈ ev_TS := List.mem_filter.mpr ⟨List.mem_of_getElem? (of_decide_eq_true h), g⟩
/-- fields -/
def ev_fB (cl : List vw_C) (own : String) (x : Nat) (a : Nat × Nat × Nat × Nat) : Bool := match cl[a.1]? with
  | some q => Nat.blt a.2.1 q.2.2 && (ev_hb a.2.2.2 (.fieldLink own x (q.2.1 a.2.1).1 (q.2.1 a.2.1).2.1 (q.2.1 a.2.1).2.2.1) && ((Nat.beq a.2.2.1 0 && !(q.2.1 a.2.1).2.2.2) || ((Nat.beq a.2.2.1 1 && ((q.2.1 a.2.1).2.2.2 && decide ((q.2.1 a.2.1).1 = own))) || Nat.beq a.2.2.1 2)))
  | none => false
theorem ev_fB_ok {cl : List vw_C} {own : String} {x : Nat} {a : Nat × Nat × Nat × Nat} (h : ev_fB cl own x a = true) : ev_fieldOk ev_TS cl own x a.1 a.2.1 a.2.2.1 := by
  unfold ev_fB at h
  split at h
  · next q hq =>
    rw [Bool.and_eq_true, Bool.and_eq_true] at h
    obtain ⟨h1, h2, h3⟩ := h
    refine ⟨q, hq, by simpa [Nat.blt_eq] using h1, ev_hb_in h2 rfl, ?_⟩
    rw [Bool.or_eq_true, Bool.or_eq_true, Bool.and_eq_true, Bool.and_eq_true, Bool.and_eq_true] at h3
    rcases h3 with ⟨h3, h4⟩ | ⟨h3, h4, h5⟩ | h3
    · exact Or.inl ⟨Nat.eq_of_beq_eq_true h3, (Bool.not_eq_true' _).mp h4⟩
    · exact Or.inr (Or.inl ⟨Nat.eq_of_beq_eq_true h3, h4, of_decide_eq_true h5⟩)
    · exact Or.inr (Or.inr (Nat.eq_of_beq_eq_true h3))
  · cases h
/-- classes that are made -/
def ev_nB (cl : List vw_C) (own : String) (x : Nat) (a : Nat × Nat × Nat × Nat) : Bool := match cl[a.1]? with
  | some q => ev_hb a.2.1 (.classLink own x q.1) && (ev_hb a.2.2.1 (.instantiable q.1 q.2.2) && ev_hb a.2.2.2 (.initialized q.1))
  | none => false
theorem ev_nB_ok {cl : List vw_C} {own : String} {x : Nat} {a : Nat × Nat × Nat × Nat} (h : ev_nB cl own x a = true) : ev_newOk ev_TS cl own x a.1 := by
  unfold ev_nB at h
  split at h
  · next q hq =>
    rw [Bool.and_eq_true, Bool.and_eq_true] at h
    exact ⟨q, hq, ev_hb_in h.1 rfl, ev_hb_in h.2.1 rfl, ev_hb_in h.2.2 rfl⟩
  · cases h
/-- component types of arrays that are made -/
def ev_cB (ov : List FieldType) (own : String) (x : Nat) (a : FieldType × Nat) : Bool := match a.1 with
  | .object C => ev_hb a.2 (.classLink own x C) && decide (FieldType.object C ∈ ov)
  | .array t => ev_hb a.2 (.classLink own x (FieldType.array t).toString) && decide (FieldType.array t ∈ ov)
  | _ => false
theorem ev_cB_ok {ov : List FieldType} {own : String} {x : Nat} {a : FieldType × Nat} (h : ev_cB ov own x a = true) : ev_compOk ev_TS ov own x a.1 := by
  unfold ev_cB at h
  split at h
  · next C e =>
    rw [Bool.and_eq_true] at h
    rw [e]
    exact ⟨ev_hb_in h.1 rfl, of_decide_eq_true h.2⟩
  · next t e =>
    rw [Bool.and_eq_true] at h
    rw [e]
    exact ⟨ev_hb_in h.1 rfl, of_decide_eq_true h.2⟩
  · cases h
/-- constants -/
def ev_kB (own : String) (x : Nat) (a : Value × Nat) : Bool := match a.1 with
  | .int v => ev_hb a.2 (.constant own x v)
  | .long v => ev_hb a.2 (.constantLong own x v)
  | _ => false
theorem ev_kB_ok {own : String} {x : Nat} {a : Value × Nat} (h : ev_kB own x a = true) : ev_cstOk ev_TS own x a.1 := by
  unfold ev_kB at h
  split at h
  · next v e => rw [e]; exact ev_hb_in h rfl
  · next v e => rw [e]; exact ev_hb_in h rfl
  · cases h
/-- a pool out of its tables -/
abbrev ev_PT : Type := List (List (Nat × (Nat × Nat × Nat × Nat))) × List (List (Nat × (Nat × Nat × Nat × Nat))) × List (List (Nat × (FieldType × Nat))) × List (List (Nat × (Value × Nat)))
def ev_pool (T : ev_PT) : ev_T := (fun x => (match ev_bk T.1 x with
    | some a => some (a.1, a.2.1, a.2.2.1)
    | none => none), fun x => (match ev_bk T.2.1 x with
    | some a => some a.1
    | none => none), fun x => (match ev_bk T.2.2.1 x with
    | some a => some a.1
    | none => none), fun x => (match ev_bk T.2.2.2 x with
    | some a => some a.1
    | none => none))
def ev_poolB (cl : List vw_C) (ov : List FieldType) (own : String) (T : ev_PT) : Bool := T.1.all (fun l => l.all fun q => ev_fB cl own q.1 q.2) && (T.2.1.all (fun l => l.all fun q => ev_nB cl own q.1 q.2) && (T.2.2.1.all (fun l => l.all fun q => ev_cB ov own q.1 q.2) && T.2.2.2.all (fun l => l.all fun q => ev_kB own q.1 q.2)))
theorem ev_poolB_ok {cl : List vw_C} {ov : List FieldType} {own : String} {T : ev_PT} (h : ev_poolB cl ov own T = true) : ev_poolOk ev_TS cl ov own (ev_pool T) := by
  unfold ev_poolB at h
  rw [Bool.and_eq_true, Bool.and_eq_true, Bool.and_eq_true] at h
  obtain ⟨h1, h2, h3, h4⟩ := h
  refine ⟨fun x ci f fin e => ?_, fun x ci e => ?_, fun x ty e => ?_, fun x v e => ?_⟩
  · have e : (match ev_bk T.1 x with | some a => some (a.1, a.2.1, a.2.2.1) | none => none) = some (ci, f, fin) := e
    split at e
    · next a ha =>
      cases e
      exact ev_fB_ok (ev_bk_all (f := fun x a => ev_fB cl own x a) h1 ha)
    · cases e
  · have e : (match ev_bk T.2.1 x with | some a => some a.1 | none => none) = some ci := e
    split at e
    · next a ha =>
      cases e
      exact ev_nB_ok (ev_bk_all (f := fun x a => ev_nB cl own x a) h2 ha)
    · cases e
  · have e : (match ev_bk T.2.2.1 x with | some a => some a.1 | none => none) = some ty := e
    split at e
    · next a ha =>
      cases e
      exact ev_cB_ok (ev_bk_all (f := fun x a => ev_cB ov own x a) h3 ha)
    · cases e
  · have e : (match ev_bk T.2.2.2 x with | some a => some a.1 | none => none) = some v := e
    split at e
    · next a ha =>
      cases e
      exact ev_kB_ok (ev_bk_all (f := fun x a => ev_kB own x a) h4 ha)
    · cases e
