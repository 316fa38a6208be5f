/-! CLOSED CALLS by evaluation, static calls with what they answer, cases -/
def ev_zchkH (o : Option ev_Z) (r : Option Value) (n dc ds : Nat) (H : List ev_E) : Bool := match o with
  | some (.inl r', h, n', dc', ds') => decide (r' = r) && (Nat.beq n' n && (Nat.beq dc' dc && (Nat.beq ds' ds && ev_eqH h H)))
  | _ => false
theorem ev_zofH {o : Option ev_Z} {r : Option Value} {n dc ds : Nat} {H : List ev_E} (e : ev_zchkH o r n dc ds H = true) : o = some (.inl r, H, n, dc, ds) := by
  unfold ev_zchkH at e
  split at e
  · next r' h n' dc' ds' =>
    simp only [Bool.and_eq_true] at e
    obtain ⟨h1, h2, h3, h4, h5⟩ := e
    rw [of_decide_eq_true h1, Nat.eq_of_beq_eq_true h2, Nat.eq_of_beq_eq_true h3, Nat.eq_of_beq_eq_true h4, ev_eqH_ok h5]
  · cases e
theorem ev_w_stat {X : ev_X} {lv : List (Nat × Value)} {h h' : List ev_E} {n d n' dc ds : Nat} {M : ev_M} {pc : Nat} {st as rest : List Value} {y kind mi na : Nat} {v : Value} (hkd : kind = 2 ∨ kind = 5 ∨ kind = 8) (hi : M.1 pc = some (.invokestatic y, 3)) (hk : ev_Lk M.2.2.1 y = some (kind, mi, na)) (hP : (ev_P mi).isSome = true) (hna : Nat.beq na (ev_Mof mi).2.2.2.2.2.1 = true) (hpop : ev_pop na [] st = some (as, rest)) (hs : Nat.ble (ev_sum rest) 8 = true) (hc : ev_calld d mi as h n = some (.inl (some v), h', n', dc, ds)) : ev_stepM M d X pc lv st h n = some (pc + 3, lv, v :: rest, h', n', dc, ds) := by
  rcases hkd with rfl | rfl | rfl
  · exact ev_p_stat (Or.inl rfl) hi hk hP hna hpop hs hc
  · exact ev_p_stat (Or.inr rfl) hi hk hP hna hpop hs hc
  · exact ev_p_stat8 hi hk hP hna hpop hs hc
theorem ev_split2 (x : Int32) : x.toInt ≤ -1 ∨ 0 ≤ x.toInt := by omega
theorem ev_toInt_inj {x y : Int32} (h : x.toInt = y.toInt) : x = y := Int32.toInt_inj.mp h
theorem ev_split3 (x : Int32) : x.toInt ≤ -1 ∨ x = 0 ∨ 1 ≤ x.toInt := by
  by_cases h1 : x.toInt ≤ -1
  · exact Or.inl h1
  · by_cases h2 : x.toInt = 0
    · exact Or.inr (Or.inl (ev_toInt_inj h2))
    · exact Or.inr (Or.inr (by omega))
theorem ev_split5 (x : Int32) : x.toInt ≤ -1 ∨ x = 0 ∨ x = 1 ∨ x = 2 ∨ 3 ≤ x.toInt := by
  by_cases h1 : x.toInt ≤ -1
  · exact Or.inl h1
  · by_cases h2 : x.toInt = 0
    · exact Or.inr (Or.inl (ev_toInt_inj h2))
    · by_cases h3 : x.toInt = 1
      · exact Or.inr (Or.inr (Or.inl (ev_toInt_inj h3)))
      · by_cases h4 : x.toInt = 2
        · exact Or.inr (Or.inr (Or.inr (Or.inl (ev_toInt_inj h4))))
        · exact Or.inr (Or.inr (Or.inr (Or.inr (by omega))))
/-- the cells at the head of the law's loop, and an arm of the first pass -/
def ev_H0 : List ev_E := ev_sL4.2.2.2.1
def ev_lv0 : List (Nat × Value) := [(4, .int 0), (3, .ref 723), (2, .ref 621), (1, .ref 0), (0, .retAddr 0)]
def ev_P1 (xs : Nat → Int32) (pc : Nat) : Prop := ∃ (K : Nat) (lv' : List (Nat × Value)) (h' : List ev_E) (n' nc' ns' : Nat), ev_stepn (ev_stepM ev_Mlaw 12 (some (6, xs))) K (pc, ev_lv0, [], ev_H0, 724, 724, 3553586) = some (2272, lv', [], h', n', nc', ns') ∧ ev_lvK lv' ∧ ev_lk lv' 4 = some (.int 0) ∧ nc' ≤ 116300 ∧ ns' ≤ 8753336
