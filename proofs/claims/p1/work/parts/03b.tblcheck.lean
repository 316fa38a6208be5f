/-! TABLES: how they are looked up, and checked -/
def ev_tb (t : List (List (Option (Instr × Nat)))) (pc : Nat) : Option (Instr × Nat) := match t[pc / 32]? with
  | some l => (match l[pc % 32]? with
    | some (some q) => some q
    | _ => none)
  | none => none
def ev_wl (l : List UInt8) : ByteArray := ⟨⟨l⟩⟩
def ev_w1 (bs : List UInt8) (q : Instr × Nat) : Bool := match bs with
  | [] => false
  | x :: _ => ev_ok1 x.toNat && decide (decode (ev_wl (bs.take 8)) 0 = .ok q)
theorem ev_dec_eq (b : ByteArray) (pc : Nat) : decode b pc = (Decoder.instr pc b pc).bind (fun z => .ok (z.1, z.2 - pc)) := rfl
theorem ev_w1_ok {b : ByteArray} {pc : Nat} {q : Instr × Nat} (h : ev_w1 (b.data.toList.drop pc) q = true) : decode b pc = .ok q := by
  unfold ev_w1 at h
  split at h
  · cases h
  · next x l hl =>
    rw [Bool.and_eq_true] at h
    obtain ⟨h1, h2⟩ := h
    have h2 := of_decide_eq_true h2
    have hw : ev_win (ev_wl ((b.data.toList.drop pc).take 8)) b pc := by
      intro p hp
      have hp0 : p < ((b.data.toList.drop pc).take 8).length := hp
      have hp1 := hp0
      rw [List.length_take, List.length_drop] at hp1
      have hs : b.data.toList.length = b.size := rfl
      have h3 : pc + p < b.size := by omega
      refine ⟨h3, ?_⟩
      have e : ((b.data.toList.drop pc).take 8)[p]'hp0 = b.data.toList[pc + p]'(by omega) := by
        rw [List.getElem_take, List.getElem_drop]
      exact e.symm
    rw [hl] at hw
    rw [hl] at h2
    rw [ev_dec_eq] at h2
    cases h3 : Decoder.instr 0 (ev_wl ((x :: l).take 8)) 0 with
    | error e => rw [h3] at h2; cases h2
    | ok z =>
      obtain ⟨i, n⟩ := z
      rw [h3] at h2
      have h2 : (Except.ok (i, n - 0) : Except DecodeError (Instr × Nat)) = .ok q := h2
      cases h2
      rw [ev_dec_eq, ev_sim_body hw ?_ h3]
      · show (Except.ok (i, pc + n - pc) : Except DecodeError (Instr × Nat)) = .ok (i, n - 0)
        rw [Nat.add_sub_cancel_left, Nat.sub_zero]
      · intro y p1 hy
        rw [ev_u1_eq] at hy
        split at hy
        · cases hy
          exact h1
        · cases hy
def ev_decR (b : ByteArray) : Nat → List UInt8 → List (Option (Instr × Nat)) → Bool
  | _, _, [] => true
  | pc, bs, none :: l => ev_decR b (pc + 1) bs.tail l
  | pc, bs, some q :: l => (ev_w1 bs q || decide (decode b pc = .ok q)) && ev_decR b (pc + 1) bs.tail l
def ev_decT (b : ByteArray) : Nat → List UInt8 → List (List (Option (Instr × Nat))) → Bool
  | _, _, [] => true
  | pc, bs, l :: t => ev_decR b pc bs l && ev_decT b (pc + 32) (bs.drop 32) t
def ev_dec (b : ByteArray) (t : List (List (Option (Instr × Nat)))) : Bool := ev_decT b 0 b.data.toList t
theorem ev_decR_ok {b : ByteArray} {q : Instr × Nat} : ∀ {l : List (Option (Instr × Nat))} {pc j : Nat}, ev_decR b pc (b.data.toList.drop pc) l = true → l[j]? = some (some q) → decode b (pc + j) = .ok q
  | [], _, _, _, h => by simp at h
  | none :: l, pc, j, h, hj => by
    have h : ev_decR b (pc + 1) (b.data.toList.drop pc).tail l = true := h
    rw [List.tail_drop] at h
    cases j with
    | zero => rw [List.getElem?_cons_zero] at hj; cases hj
    | succ j =>
      rw [List.getElem?_cons_succ] at hj
      have := ev_decR_ok h hj
      rw [show pc + (j + 1) = pc + 1 + j by omega]
      exact this
  | some x :: l, pc, j, h, hj => by
    have h : ((ev_w1 (b.data.toList.drop pc) x || decide (decode b pc = .ok x)) && ev_decR b (pc + 1) (b.data.toList.drop pc).tail l) = true := h
    rw [Bool.and_eq_true, Bool.or_eq_true, List.tail_drop] at h
    cases j with
    | zero =>
      rw [List.getElem?_cons_zero] at hj
      cases hj
      rcases h.1 with h1 | h1
      · exact ev_w1_ok h1
      · exact of_decide_eq_true h1
    | succ j =>
      rw [List.getElem?_cons_succ] at hj
      have := ev_decR_ok h.2 hj
      rw [show pc + (j + 1) = pc + 1 + j by omega]
      exact this
theorem ev_dec_at {b : ByteArray} {q : Instr × Nat} : ∀ {t : List (List (Option (Instr × Nat)))} {pc r j : Nat} {l : List (Option (Instr × Nat))}, ev_decT b pc (b.data.toList.drop pc) t = true → t[r]? = some l → l[j]? = some (some q) → decode b (pc + 32 * r + j) = .ok q
  | [], _, _, _, _, _, h, _ => by simp at h
  | x :: t, pc, r, j, l, h, hr, hj => by
    have h : (ev_decR b pc (b.data.toList.drop pc) x && ev_decT b (pc + 32) ((b.data.toList.drop pc).drop 32) t) = true := h
    rw [Bool.and_eq_true, List.drop_drop] at h
    cases r with
    | zero =>
      rw [List.getElem?_cons_zero] at hr
      cases hr
      exact ev_decR_ok h.1 hj
    | succ r =>
      rw [List.getElem?_cons_succ] at hr
      have := ev_dec_at h.2 hr hj
      rw [show pc + 32 * (r + 1) + j = pc + 32 + 32 * r + j by omega]
      exact this
theorem ev_dec_ok {b : ByteArray} {t : List (List (Option (Instr × Nat)))} (h : ev_dec b t = true) (pc : Nat) (i : Instr) (len : Nat) (e : ev_tb t pc = some (i, len)) : decode b pc = .ok (i, len) := by
  unfold ev_tb at e
  split at e
  · next l hl =>
    split at e
    · next q hq =>
      cases e
      have := ev_dec_at h hl hq
      rw [show 0 + 32 * (pc / 32) + pc % 32 = pc by omega] at this
      exact this
    · cases e
  · cases e
