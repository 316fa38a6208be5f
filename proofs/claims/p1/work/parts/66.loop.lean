/-! THE LAW'S LOOP, out of an invariant -/
theorem ev_lk_filter {k : Nat} {v : Value} {f : Nat × Value → Bool} (hf : ∀ q : Nat × Value, q.1 = k → q.2 = v → f q = true) : ∀ {l : List (Nat × Value)}, ev_lk l k = some v → ev_lk (l.filter f) k = some v
  | [], h => by cases h
  | q :: l, h => by
    unfold ev_lk at h
    split at h
    · next e =>
      cases h
      have e1 := Nat.eq_of_beq_eq_true e
      rw [List.filter_cons_of_pos (hf q e1 rfl)]
      unfold ev_lk
      rw [e]
    · next e =>
      have ih := ev_lk_filter hf h
      by_cases c : f q = true
      · rw [List.filter_cons_of_pos c]
        unfold ev_lk
        rw [e]
        exact ih
      · rw [List.filter_cons_of_neg c]
        exact ih
theorem ev_lk_st1 {lv : List (Nat × Value)} {k i : Nat} {v w : Value} (h : ev_lk lv k = some v) (hk : k ≠ i) (hv : v.category = 1) : ev_lk (ev_st1 lv i w) k = some v := by
  unfold ev_st1
  unfold ev_lk
  have e : Nat.beq i k = false := by
    cases h9 : Nat.beq i k with
    | true => exact absurd (Nat.eq_of_beq_eq_true h9).symm hk
    | false => rfl
  rw [e]
  refine ev_lk_filter (fun q h1 h2 => ?_) h
  rw [h1, h2, hv]
  simp [hk]
theorem ev_lk_st1_self {lv : List (Nat × Value)} {i : Nat} {w : Value} : ev_lk (ev_st1 lv i w) i = some w := by
  unfold ev_st1
  unfold ev_lk
  rw [Nat.beq_refl]
theorem ev_lvK_st1 {lv : List (Nat × Value)} {i : Nat} {w : Value} (h : ev_lvK lv) (hi : 4 ≤ i) : ev_lvK (ev_st1 lv i w) :=
  ⟨ev_lk_st1 h.1 (by omega) rfl, ev_lk_st1 h.2.1 (by omega) rfl, ev_lk_st1 h.2.2.1 (by omega) rfl, ev_lk_st1 h.2.2.2 (by omega) rfl⟩
theorem ev_i32 {a b : Nat} (ha : a < 100000) (hb : b < 100000) : Int32.ofNat a < Int32.ofNat b ↔ a < b := by
  rw [Int32.lt_iff_toInt_lt, Int32.toInt_ofNat_of_lt (by omega), Int32.toInt_ofNat_of_lt (by omega)]
  omega
theorem ev_sub6 {L j : Nat} (hL : L < 90000) (hj : j < 90000) : Int32.ofNat L - 6 < Int32.ofNat j ↔ L < j + 6 := by
  have h6 : (Int32.ofNat L - 6).toInt = (L : Int) - 6 := by
    rw [Int32.toInt_sub, Int32.toInt_ofNat_of_lt (by omega)]
    show Int.bmod ((L : Int) - 6) (2 ^ 32) = _
    rw [Int.bmod_eq_of_le (by omega) (by omega)]
  rw [Int32.lt_iff_toInt_lt, h6, Int32.toInt_ofNat_of_lt (by omega)]
  omega
theorem ev_in_of {j L : Nat} (hj : j < L) (hL : L < 90000) : ev_in (Int32.ofNat j) L = true := by
  unfold ev_in
  have h1 : (Int32.ofNat j).toInt = j := Int32.toInt_ofNat_of_lt (by omega)
  have h0 : ¬ Int32.ofNat j < 0 := by
    rw [Int32.lt_iff_toInt_lt, h1]
    show ¬ (j : Int) < 0
    omega
  have h2 : (Int32.ofNat j).toNatClampNeg = j := by
    rw [← Int32.toNat_toInt, h1]
    rfl
  rw [decide_eq_false h0, h2]
  simp [Nat.blt_eq, hj]
/-- a pass, as a hypothesis: from behind the head to the loop's end, with the invariant -/
def ev_Pass (L : Nat) (xs : Nat → Int32) (I : List ev_E → Nat → Nat → Nat → Nat → Prop) : Prop := ∀ (lv : List (Nat × Value)) (h : List ev_E) (n nc ns j : Nat), ev_lvK lv → ev_lk lv 4 = some (.int (Int32.ofNat j)) → j + 6 ≤ L → I h n nc ns j →
  ∃ (k : Nat) (lv' : List (Nat × Value)) (h' : List ev_E) (n' nc' ns' : Nat), ev_stepn (ev_stepM ev_Mlaw 12 (some (L, xs))) k (33, lv, [], h, n, nc, ns) = some (2272, lv', [], h', n', nc', ns') ∧ ev_lvK lv' ∧ ev_lk lv' 4 = some (.int (Int32.ofNat j)) ∧ I h' n' nc' ns' (j + 6)
theorem ev_p_iinc {M : ev_M} {d : Nat} {X : ev_X} {pc n k : Nat} {c : Int} {x : Int32} {lv : List (Nat × Value)} {st : List Value} {h : List ev_E} (hi : M.1 pc = some (.iinc k c, 3)) (hk : k < M.2.1) (hv : ev_lk lv k = some (.int x)) : ev_stepM M d X pc lv st h n = some (pc + 3, ev_st1 lv k (.int (x + Int32.ofInt c)), st, h, n, 0, 0) := ev_one_pure hi (by
  show (match decide (k < M.2.1) with
    | true => (match ev_lk lv k with
      | some (Value.int x) => some (pc + 3, ev_st1 lv k (Value.int (x + Int32.ofInt c)), st)
      | _ => none)
    | false => none) = _
  rw [decide_eq_true hk, hv])
theorem ev_loop {L : Nat} {xs : Nat → Int32} {I : List ev_E → Nat → Nat → Nat → Nat → Prop} (hL : L ≤ 3072) (hp : ev_Pass L xs I) : ∀ (m j : Nat) (lv : List (Nat × Value)) (h : List ev_E) (n nc ns : Nat), L < j + 6 * m + 6 → j ≤ L → ev_lvK lv → ev_lk lv 4 = some (.int (Int32.ofNat j)) → I h n nc ns j →
    ∃ (k : Nat) (lv' : List (Nat × Value)) (h' : List ev_E) (n' nc' ns' j' : Nat), ev_stepn (ev_stepM ev_Mlaw 12 (some (L, xs))) k (23, lv, [], h, n, nc, ns) = some (2278, lv', [], h', n', nc', ns') ∧ I h' n' nc' ns' j'
  | m, j, lv, h, n, nc, ns, hm, hj, hK, h4, hI => by
    have hh := ev_headK (L := L) (xs := xs) (h := h) (n := n) (nc := nc) (ns := ns) hK h4
    by_cases hc : L < j + 6
    · rw [if_pos ((ev_sub6 (by omega) (by omega)).mpr hc)] at hh
      exact ⟨_, lv, h, n, nc, ns, j, hh, hI⟩
    · rw [if_neg (fun q => hc ((ev_sub6 (by omega) (by omega)).mp q))] at hh
      obtain ⟨k, lv', h', n', nc', ns', h1, h2, h3, h5⟩ := hp lv h n nc ns j hK h4 (by omega) hI
      cases m with
      | zero => omega
      | succ m =>
        have e6 : Int32.ofNat j + Int32.ofInt 6 = Int32.ofNat (j + 6) := (Int32.ofNat_add j 6).symm
        have s1 := ev_stepn_1 (nc := nc') (ns := ns') (ev_p_iinc (M := ev_Mlaw) (d := 12) (X := some (L, xs)) (pc := 2272) (st := []) (h := h') (n := n') (k := 4) (c := 6) (by decide +kernel) (by decide +kernel) h3)
        rw [e6] at s1
        have s2 := ev_stepn_1 (nc := nc') (ns := ns') (ev_p_goto (M := ev_Mlaw) (d := 12) (X := some (L, xs)) (pc := 2275) (lv := ev_st1 lv' 4 (.int (Int32.ofNat (j + 6)))) (st := []) (h := h') (n := n') (o := -2252) (t := 23) (by decide +kernel) rfl)
        obtain ⟨k2, lv2, h9, n9, nc9, ns9, j9, g1, g2⟩ := ev_loop hL hp m (j + 6) (ev_st1 lv' 4 (.int (Int32.ofNat (j + 6)))) h' n' nc' ns' (by omega) (by omega) (ev_lvK_st1 h2 (by omega)) ev_lk_st1_self h5
        exact ⟨_, lv2, h9, n9, nc9, ns9, j9, ev_stepn_add hh (ev_stepn_add h1 (ev_stepn_add s1 (ev_stepn_add s2 g1))), g2⟩
/-- THE LAW out of an invariant -/
theorem whole_of_pass {p : Program} {e : Env} {s : State} {m : MethodId} {below : List Frame} {meth : Method} {c : Code} (l : Launch) (hflags : l.flags = flags0) {b L : Nat} {xs : Nat → Int32} (hL : L ≤ 3072) (C0 : lw_At p s m meth c b L xs) {I : List ev_E → Nat → Nat → Nat → Nat → Prop} (h0 : I ev_sL4.2.2.2.1 ev_sL4.2.2.2.2.1 ev_sL4.2.2.2.2.2.1 ev_sL4.2.2.2.2.2.2 0) (hp : ev_Pass L xs I) (hI : ∀ h n nc ns j, I h n nc ns j → nc ≤ 116300 ∧ ns ≤ 8753336) : W p l e room_1 s m #[Value.ref b] below meth c s.heap [] 0 0 (lw_Z below #[Value.ref b] s) (entryFrame m ([Value.ref b] : List Value).toArray 7) := by
  obtain ⟨k, lv', h', n', nc', ns', j', h1, h2⟩ := ev_loop hL hp (L + 1) 0 (ev_lvL 0 (.ref 0) ev_rM ev_rO) ev_sL4.2.2.2.1 ev_sL4.2.2.2.2.1 ev_sL4.2.2.2.2.2.1 ev_sL4.2.2.2.2.2.2 (by omega) (by omega) ev_lvK_L rfl h0
  obtain ⟨h3, h4⟩ := hI _ _ _ _ _ h2
  have e1 := ev_stepn_run (ev_law3 (some (L, xs))) (k + 2)
  rw [ev_sL4_eq, ev_stepn_run h1 2, ev_tail (f := 0)] at e1
  exact ev_start l hflags C0 e1 (by decide +kernel) h3 h4
