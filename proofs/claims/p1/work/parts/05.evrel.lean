/-! THE RELATION between abstract and concrete values: ad is the list of the cells' addresses, b the script's -/
def ev_r (ad : List Nat) (b : Nat) : Value → Value → Prop
  | .ref k, v => ∃ a, ad[k]? = some a ∧ v = .ref a
  | .retAddr 0, v => v = .ref b
  | .retAddr (_ + 1), v => ∃ a, v = .ref a
  | x, v => v = x
def ev_rs (ad : List Nat) (b : Nat) : List Value → List Value → Prop
  | [], [] => True
  | x :: l, y :: l' => ev_r ad b x y ∧ ev_rs ad b l l'
  | _, _ => False
def ev_ls (ad : List Nat) (b : Nat) : List (Nat × Value) → List (Nat × Value) → Prop
  | [], [] => True
  | x :: l, y :: l' => (y.1 = x.1 ∧ ev_r ad b x.2 y.2) ∧ ev_ls ad b l l'
  | _, _ => False
theorem ev_r_cat {ad : List Nat} {b : Nat} {x y : Value} (h : ev_r ad b x y) : y.category = x.category := by
  cases x with
  | ref k => obtain ⟨a, -, rfl⟩ := h; rfl
  | retAddr k =>
    cases k with
    | zero => cases h; rfl
    | succ k => obtain ⟨a, rfl⟩ := h; rfl
  | _ => cases h; rfl
theorem ev_rs_cons {ad : List Nat} {b : Nat} {x : Value} {l l' : List Value} (h : ev_rs ad b (x :: l) l') : ∃ y t, l' = y :: t ∧ ev_r ad b x y ∧ ev_rs ad b l t := by
  cases l' with
  | nil => exact h.elim
  | cons y t => exact ⟨y, t, rfl, h.1, h.2⟩
theorem ev_rs_int {ad : List Nat} {b : Nat} {x : Int32} {l l' : List Value} (h : ev_rs ad b (.int x :: l) l') : ∃ t, l' = .int x :: t ∧ ev_rs ad b l t := by
  obtain ⟨y, t, rfl, h1, h2⟩ := ev_rs_cons h
  cases h1
  exact ⟨t, rfl, h2⟩
theorem ev_rs_long {ad : List Nat} {b : Nat} {x : Int64} {l l' : List Value} (h : ev_rs ad b (.long x :: l) l') : ∃ t, l' = .long x :: t ∧ ev_rs ad b l t := by
  obtain ⟨y, t, rfl, h1, h2⟩ := ev_rs_cons h
  cases h1
  exact ⟨t, rfl, h2⟩
theorem ev_rs_null {ad : List Nat} {b : Nat} {l l' : List Value} (h : ev_rs ad b (.null :: l) l') : ∃ t, l' = .null :: t ∧ ev_rs ad b l t := by
  obtain ⟨y, t, rfl, h1, h2⟩ := ev_rs_cons h
  cases h1
  exact ⟨t, rfl, h2⟩
theorem ev_rs_ref {ad : List Nat} {b k : Nat} {l l' : List Value} (h : ev_rs ad b (.ref k :: l) l') : ∃ a t, l' = .ref a :: t ∧ ad[k]? = some a ∧ ev_rs ad b l t := by
  obtain ⟨y, t, rfl, ⟨a, h0, rfl⟩, h2⟩ := ev_rs_cons h
  exact ⟨a, t, rfl, h0, h2⟩
theorem ev_lk_at {ad : List Nat} {b : Nat} : ∀ {l l' : List (Nat × Value)} {i : Nat} {x : Value}, ev_ls ad b l l' → ev_lk l i = some x → ∃ (k : Nat) (y : Value), l'[k]? = some (i, y) ∧ ev_r ad b x y
  | [], _, _, _, _, h => by cases h
  | q :: l, [], _, _, hl, _ => hl.elim
  | q :: l, r :: l', i, x, hl, h => by
    unfold ev_lk at h
    cases hq : Nat.beq q.1 i with
    | true =>
      rw [hq] at h
      cases h
      have e : q.1 = i := Nat.eq_of_beq_eq_true hq
      refine ⟨0, r.2, ?_, hl.1.2⟩
      rw [List.getElem?_cons_zero]
      have e2 : r.1 = i := hl.1.1.trans e
      rw [← e2]
    | false =>
      rw [hq] at h
      obtain ⟨k, y, h1, h2⟩ := ev_lk_at hl.2 h
      exact ⟨k + 1, y, by rw [List.getElem?_cons_succ]; exact h1, h2⟩
theorem ev_ls_filter {ad : List Nat} {b : Nat} {g : Nat × Nat → Bool} : ∀ {l l' : List (Nat × Value)}, ev_ls ad b l l' → ev_ls ad b (l.filter fun q => g (q.1, q.2.category)) (l'.filter fun q => g (q.1, q.2.category))
  | [], [], _ => trivial
  | [], _ :: _, h => h.elim
  | _ :: _, [], h => h.elim
  | x :: l, y :: l', h => by
    have e : g (y.1, y.2.category) = g (x.1, x.2.category) := by rw [h.1.1, ev_r_cat h.1.2]
    have ih := ev_ls_filter (g := g) h.2
    rw [List.filter_cons, List.filter_cons, e]
    split
    · exact ⟨h.1, ih⟩
    · exact ih
theorem ev_st1_ok {ad : List Nat} {b : Nat} {l l' : List (Nat × Value)} {i : Nat} {x y : Value} (h : ev_ls ad b l l') (hx : ev_r ad b x y) : ev_ls ad b (ev_st1 l i x) ((i, y) :: l'.filter (fun q => !(q.1 == i) && !(q.1 + 1 == i && q.2.category == 2))) :=
  ⟨⟨rfl, hx⟩, ev_ls_filter (g := fun q => !(q.1 == i) && !(q.1 + 1 == i && q.2 == 2)) h⟩
theorem ev_st2_ok {ad : List Nat} {b : Nat} {l l' : List (Nat × Value)} {i : Nat} {x y : Value} (h : ev_ls ad b l l') (hx : ev_r ad b x y) : ev_ls ad b (ev_st2 l i x) ((i, y) :: l'.filter (fun q => !(q.1 == i) && (!(q.1 == i + 1) && !(q.1 + 1 == i && q.2.category == 2)))) :=
  ⟨⟨rfl, hx⟩, ev_ls_filter (g := fun q => !(q.1 == i) && (!(q.1 == i + 1) && !(q.1 + 1 == i && q.2 == 2))) h⟩
theorem ev_tg_ok {pc t : Nat} {off : Int} (h : ev_tg pc off = some t) : (pc : Int) + off = (t : Int) := by
  unfold ev_tg at h
  split at h
  · next t' e => cases h; exact e
  · cases h
theorem ev_g_ok {α : Type} {len k : Nat} {x : Option α} {y : α} (h : ev_g len k x = some y) : len = k ∧ x = some y := by
  unfold ev_g at h
  split at h
  · next e => exact ⟨Nat.eq_of_beq_eq_true e, h⟩
  · cases h
theorem ev_r_mono {ad : List Nat} {b : Nat} {x y : Value} (l : List Nat) (h : ev_r ad b x y) : ev_r (ad ++ l) b x y := by
  cases x with
  | ref k =>
    obtain ⟨a, h1, h2⟩ := h
    exact ⟨a, by rw [List.getElem?_append_left (List.getElem?_eq_some_iff.mp h1).1]; exact h1, h2⟩
  | retAddr k => cases k <;> exact h
  | _ => exact h
theorem ev_rs_mono {ad : List Nat} {b : Nat} (e : List Nat) : ∀ {l l' : List Value}, ev_rs ad b l l' → ev_rs (ad ++ e) b l l'
  | [], [], _ => trivial
  | [], _ :: _, h => h.elim
  | _ :: _, [], h => h.elim
  | _ :: _, _ :: _, h => ⟨ev_r_mono e h.1, ev_rs_mono e h.2⟩
theorem ev_ls_mono {ad : List Nat} {b : Nat} (e : List Nat) : ∀ {l l' : List (Nat × Value)}, ev_ls ad b l l' → ev_ls (ad ++ e) b l l'
  | [], [], _ => trivial
  | [], _ :: _, h => h.elim
  | _ :: _, [], h => h.elim
  | _ :: _, _ :: _, h => ⟨⟨h.1.1, ev_r_mono e h.1.2⟩, ev_ls_mono e h.2⟩
