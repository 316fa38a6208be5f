/-! THE CELLS: abstract ones h, and those of the machine, ws; ad is ws's addresses -/
def ev_q (ad : List Nat) : Value → Option Nat → Prop
  | .ref k, r => ∃ a, ad[k]? = some a ∧ r = some a
  | _, r => r = none
def ev_isRef : FieldType → Bool
  | .object _ => true
  | .array _ => true
  | _ => false
def ev_isLong : FieldType → Bool
  | .long => true
  | _ => false
/-- an array's contents -/
def ev_a (ad : List Nat) (ty : FieldType) (N : Nat) (l : List (Nat × Value)) (cA : ClassId) (e : va_E) : Prop := match ev_isRef ty with
  | true => ∃ g : Nat → Option Nat, e = .inl (cA, N, .inr (.inr (.inr (.inr g)))) ∧ ∀ j, ev_q ad (ev_rd .null l j) (g j)
  | false => (match ev_isLong ty with
    | true => e = .inl (cA, N, .inr (.inl fun j => ev_long (ev_rd (.long 0) l j)))
    | false => e = .inl (cA, N, .inl fun j => ev_int (ev_rd (.int 0) l j)))
/-- what is known of an array class -/
def ev_Ar (s : State) (cA : ClassId) (ty : FieldType) : Prop := ArrOfT s cA ty ∧ va_RA s cA ty ∧ ∀ t, ty = .array t → ∃ (kA : Class) (comp : ClassId), s.vm.classes[cA]? = some kA ∧ kA.kind = .array comp (.array t) ∧ s.vm.findClass (FieldType.array t).toString = some comp
def ev_c (s : State) (ad : List Nat) (b : Nat) : ev_E → va_E → Prop
  | .inl (ty, N, l), e => ∃ cA : ClassId, ev_Ar s cA ty ∧ ev_a ad ty N l cA e
  | .inr (ci, fs), e => ∃ fs', e = .inr (ci, fs') ∧ ev_rs ad b fs fs'
def ev_W (s : State) (ad : List Nat) (b : Nat) (h : List ev_E) (ws : va_W) : Prop := ws.map (fun q => q.1) = ad ∧ h.length = ws.length ∧ ∀ (k : Nat) (x : ev_E) (y : Nat × va_E), h[k]? = some x → ws[k]? = some y → ev_c s ad b x y.2
theorem ev_q_mono {ad : List Nat} {x : Value} {r : Option Nat} (l : List Nat) (h : ev_q ad x r) : ev_q (ad ++ l) x r := by
  cases x with
  | ref k =>
    obtain ⟨a, h1, h2⟩ := h
    exact ⟨a, by rw [List.getElem?_append_left (List.getElem?_eq_some_iff.mp h1).1]; exact h1, h2⟩
  | _ => exact h
theorem ev_a_mono {ad : List Nat} {ty : FieldType} {N : Nat} {l : List (Nat × Value)} {cA : ClassId} {e : va_E} (m : List Nat) (h : ev_a ad ty N l cA e) : ev_a (ad ++ m) ty N l cA e := by
  unfold ev_a at h ⊢
  cases hr : ev_isRef ty with
  | true =>
    rw [hr] at h
    obtain ⟨g, h1, h2⟩ := h
    exact ⟨g, h1, fun j => ev_q_mono m (h2 j)⟩
  | false => rw [hr] at h; exact h
theorem ev_c_mono {s : State} {ad : List Nat} {b : Nat} {x : ev_E} {e : va_E} (m : List Nat) (h : ev_c s ad b x e) : ev_c s (ad ++ m) b x e := by
  cases x with
  | inl a => obtain ⟨cA, h1, h2⟩ := h; exact ⟨cA, h1, ev_a_mono m h2⟩
  | inr o => obtain ⟨fs', h1, h2⟩ := h; exact ⟨fs', h1, ev_rs_mono m h2⟩
theorem ev_W_at {s : State} {ad : List Nat} {b : Nat} {h : List ev_E} {ws : va_W} (hW : ev_W s ad b h ws) {k : Nat} {x : ev_E} (hk : h[k]? = some x) : ∃ (a : Nat) (e : va_E), ws[k]? = some (a, e) ∧ ad[k]? = some a ∧ ev_c s ad b x e := by
  obtain ⟨h1, h2, h3⟩ := hW
  have hl : k < ws.length := by rw [← h2]; exact (List.getElem?_eq_some_iff.mp hk).1
  obtain ⟨y, hy⟩ : ∃ y, ws[k]? = some y := ⟨ws[k], List.getElem?_eq_getElem hl⟩
  refine ⟨y.1, y.2, hy, ?_, h3 k x y hk hy⟩
  rw [← h1, List.getElem?_map, hy]
  rfl
theorem ev_W_ad {s : State} {ad : List Nat} {b : Nat} {h : List ev_E} {ws : va_W} (hW : ev_W s ad b h ws) {k a : Nat} (hk : ad[k]? = some a) : ∃ (x : ev_E) (e : va_E), h[k]? = some x ∧ ws[k]? = some (a, e) ∧ ev_c s ad b x e := by
  obtain ⟨h1, h2, h3⟩ := hW
  rw [← h1, List.getElem?_map] at hk
  cases hy : ws[k]? with
  | none => rw [hy] at hk; cases hk
  | some y =>
    rw [hy] at hk
    have e1 : y.1 = a := Option.some.inj hk
    have hl : k < h.length := by rw [h2]; exact (List.getElem?_eq_some_iff.mp hy).1
    refine ⟨h[k], y.2, List.getElem?_eq_getElem hl, ?_, h3 k _ y (List.getElem?_eq_getElem hl) hy⟩
    rw [← e1]
theorem ev_W_set {s : State} {ad : List Nat} {b : Nat} {h : List ev_E} {ws : va_W} (hW : ev_W s ad b h ws) {k a : Nat} {e0 e : va_E} {x : ev_E} (hk : ws[k]? = some (a, e0)) (hx : ev_c s ad b x e) : ev_W s ad b (h.set k x) (ws.set k (a, e)) := by
  obtain ⟨h1, h2, h3⟩ := hW
  have hl : k < ws.length := (List.getElem?_eq_some_iff.mp hk).1
  refine ⟨?_, by rw [List.length_set, List.length_set]; exact h2, fun j u v hu hv => ?_⟩
  · rw [List.map_set, h1]
    apply List.ext_getElem?
    intro j
    by_cases e9 : k = j
    · subst e9
      have hl2 : k < ad.length := by rw [← h1, List.length_map]; exact hl
      rw [List.getElem?_set_self hl2, ← h1, List.getElem?_map, hk]
      rfl
    · rw [List.getElem?_set_ne e9]
  · by_cases e9 : k = j
    · subst e9
      rw [List.getElem?_set_self (by rw [h2]; exact hl)] at hu
      rw [List.getElem?_set_self hl] at hv
      cases hu; cases hv
      exact hx
    · rw [List.getElem?_set_ne e9] at hu hv
      exact h3 j u v hu hv
theorem ev_W_push {s : State} {ad : List Nat} {b : Nat} {h : List ev_E} {ws : va_W} (hW : ev_W s ad b h ws) {q : Nat} {x : ev_E} {e : va_E} (hx : ev_c s (ad ++ [q]) b x e) : ev_W s (ad ++ [q]) b (h ++ [x]) (ws ++ [(q, e)]) := by
  obtain ⟨h1, h2, h3⟩ := hW
  refine ⟨by rw [List.map_append, h1]; rfl, by rw [List.length_append, List.length_append, h2]; rfl, fun j u v hu hv => ?_⟩
  by_cases hl : j < ws.length
  · rw [List.getElem?_append_left (by rw [h2]; exact hl)] at hu
    rw [List.getElem?_append_left hl] at hv
    exact ev_c_mono [q] (h3 j u v hu hv)
  · rw [List.getElem?_append_right (by rw [h2]; omega)] at hu
    rw [List.getElem?_append_right (by omega)] at hv
    have h0 : j - ws.length < 1 := (List.getElem?_eq_some_iff.mp hv).1
    have e0 : j - ws.length = 0 := by omega
    rw [h2, e0] at hu
    rw [e0] at hv
    cases hu; cases hv
    exact hx
theorem ev_W_last {s : State} {ad : List Nat} {b : Nat} {h : List ev_E} {ws : va_W} (hW : ev_W s ad b h ws) (q : Nat) : (ad ++ [q])[h.length]? = some q := by
  obtain ⟨h1, h2, -⟩ := hW
  have e : h.length = ad.length := by rw [h2, ← h1, List.length_map]
  rw [e, List.getElem?_append_right (Nat.le_refl _), Nat.sub_self]
  rfl
theorem ev_K1 {D : va_G} {cl : List vw_C} {s : State} (hK : va_K D cl [] s) {cA : ClassId} {ty : FieldType} (hA : ev_Ar s cA ty) : va_K D cl [(cA, ty)] s := ⟨hK.1, fun k q hq => by
  have h0 : k < 1 := (List.getElem?_eq_some_iff.mp hq).1
  rw [show k = 0 by omega] at hq
  cases hq
  exact ⟨hA.1, hA.2.1⟩⟩
theorem ev_rs_at {ad : List Nat} {b : Nat} : ∀ {l l' : List Value} {k : Nat} {x : Value}, ev_rs ad b l l' → l[k]? = some x → ∃ y, l'[k]? = some y ∧ ev_r ad b x y
  | [], [], k, x, _, h => by simp at h
  | [], _ :: _, _, _, h, _ => h.elim
  | _ :: _, [], _, _, h, _ => h.elim
  | u :: l, v :: l', k, x, h, hx => by
    cases k with
    | zero =>
      rw [List.getElem?_cons_zero] at hx
      cases hx
      exact ⟨v, by rw [List.getElem?_cons_zero], h.1⟩
    | succ k =>
      rw [List.getElem?_cons_succ] at hx
      obtain ⟨y, h1, h2⟩ := ev_rs_at h.2 hx
      exact ⟨y, by rw [List.getElem?_cons_succ]; exact h1, h2⟩
theorem ev_rs_set {ad : List Nat} {b : Nat} {x y : Value} (hx : ev_r ad b x y) : ∀ {l l' : List Value} (k : Nat), ev_rs ad b l l' → ev_rs ad b (l.set k x) (l'.set k y)
  | [], [], _, _ => trivial
  | [], _ :: _, _, h => h.elim
  | _ :: _, [], _, h => h.elim
  | _ :: l, _ :: l', k, h => by
    cases k with
    | zero => exact ⟨hx, h.2⟩
    | succ k => exact ⟨h.1, ev_rs_set hx k h.2⟩
theorem ev_rs_len {ad : List Nat} {b : Nat} : ∀ {l l' : List Value}, ev_rs ad b l l' → l'.length = l.length
  | [], [], _ => rfl
  | [], _ :: _, h => h.elim
  | _ :: _, [], h => h.elim
  | _ :: _, _ :: _, h => by rw [List.length_cons, List.length_cons, ev_rs_len h.2]
theorem ev_in_ok {i : Int32} {n : Nat} (h : ev_in i n = true) : vp_in i n := by
  unfold ev_in at h
  rw [Bool.and_eq_true] at h
  obtain ⟨h1, h2⟩ := h
  have h3 : ¬ i < 0 := of_decide_eq_false ((Bool.not_eq_true' _).mp h1)
  have h4 : i.toNatClampNeg < n := by simpa [Nat.blt_eq] using h2
  rintro (q | q)
  · exact h3 q
  · omega
theorem ev_and1 (v : Int32) : v &&& 1 = 0 ∨ v &&& 1 = 1 := by
  obtain ⟨j, hj, e⟩ := pk_andE v (m := 1) 1 (by decide +kernel)
  rw [e]
  have : j = 0 ∨ j = 1 := by omega
  rcases this with rfl | rfl
  · exact Or.inl rfl
  · exact Or.inr rfl
theorem ev_fit_ok {ad : List Nat} {b : Nat} {ty : FieldType} {x y : Value} (h : ev_fit ty x = true) (hr : ev_r ad b x y) : narrow ty y = y ∧ fits ty y = true := by
  cases ty <;> cases x <;> first | (cases h; done) | skip
  all_goals first
    | (cases hr; exact ⟨rfl, rfl⟩)
    | (obtain ⟨a, -, rfl⟩ := hr; exact ⟨rfl, rfl⟩)
    | skip
  · next v =>
    cases hr
    have e : v &&& 1 = v := of_decide_eq_true h
    refine ⟨by show Value.int (v &&& 1) = _; rw [e], ?_⟩
    rcases ev_and1 v with q | q <;> rw [e] at q <;> rw [q] <;> rfl
