/-! RUNS by evaluation: in segments -/
def ev_stepn (step : Nat → List (Nat × Value) → List Value → List ev_E → Nat → Option ev_S) : Nat → ev_S → Option ev_S
  | 0, S => some S
  | k + 1, S => match step S.1 S.2.1 S.2.2.1 S.2.2.2.1 S.2.2.2.2.1 with
    | some (pc', lv', st', h', n', dc, ds) => ev_stepn step k (pc', lv', st', h', n', S.2.2.2.2.2.1 + dc, S.2.2.2.2.2.2 + ds)
    | none => none
def ev_from (step : Nat → List (Nat × Value) → List Value → List ev_E → Nat → Option ev_S) (f : Nat) (S : ev_S) : Option ev_R := ev_run step f S.1 S.2.1 S.2.2.1 S.2.2.2.1 S.2.2.2.2.1 S.2.2.2.2.2.1 S.2.2.2.2.2.2
theorem ev_from_succ (step : Nat → List (Nat × Value) → List Value → List ev_E → Nat → Option ev_S) (f : Nat) (S : ev_S) : ev_from step (f + 1) S = (match step S.1 S.2.1 S.2.2.1 S.2.2.2.1 S.2.2.2.2.1 with
    | some (pc', lv', st', h', n', dc, ds) => ev_from step f (pc', lv', st', h', n', S.2.2.2.2.2.1 + dc, S.2.2.2.2.2.2 + ds)
    | none => some (S.1, S.2.2.1, S.2.2.2.1, S.2.2.2.2.1, S.2.2.2.2.2.1, S.2.2.2.2.2.2)) := rfl
theorem ev_stepn_run {step : Nat → List (Nat × Value) → List Value → List ev_E → Nat → Option ev_S} : ∀ {k : Nat} {S S' : ev_S}, ev_stepn step k S = some S' → ∀ f, ev_from step (k + f) S = ev_from step f S'
  | 0, S, S', h, f => by
    cases h
    rw [Nat.zero_add]
  | k + 1, S, S', h, f => by
    unfold ev_stepn at h
    rw [show k + 1 + f = k + f + 1 by omega, ev_from_succ]
    split at h
    · next pc' lv' st' h' n' dc ds hs =>
      exact ev_stepn_run h f
    · cases h
/-- without a script nothing is done that is not done with one -/
theorem ev_one_X {cn : Nat → String} {ft : Nat → Nat → FieldType} {nf : Nat → Nat} {PE : Nat → ev_T} {L : Nat → Nat → Option ev_L} {P : Nat → Option ev_M} {X : ev_X} {M : ev_M} {call : Nat → List Value → List ev_E → Nat → Option ev_Z} {pc : Nat} {lv : List (Nat × Value)} {st : List Value} {h : List ev_E} {n : Nat} {z : ev_S} (e : ev_one cn ft nf PE L P none M call pc lv st h n = some z) : ev_one cn ft nf PE L P X M call pc lv st h n = some z := by
  unfold ev_one at e ⊢
  split
  · next hm => rw [hm] at e; cases e
  · next i len hm =>
    rw [hm] at e
    dsimp only at e
    split
    · next a b c hp => rw [hp] at e; exact e
    · next hp =>
      rw [hp] at e
      dsimp only at e
      split
      · next a b c d g w hq => rw [hq] at e; exact e
      · next hq =>
        rw [hq] at e
        dsimp only at e
        split
        · next z2 hc => rw [hc] at e; exact e
        · next hc =>
          rw [hc] at e
          dsimp only at e
          unfold ev_scr at e
          cases e
theorem ev_stepn_X {s1 s2 : Nat → List (Nat × Value) → List Value → List ev_E → Nat → Option ev_S} (hs : ∀ pc lv st h n z, s1 pc lv st h n = some z → s2 pc lv st h n = some z) : ∀ {k : Nat} {S S' : ev_S}, ev_stepn s1 k S = some S' → ev_stepn s2 k S = some S'
  | 0, _, _, h => h
  | k + 1, S, S', h => by
    unfold ev_stepn at h ⊢
    split at h
    · next pc' lv' st' h' n' dc ds h1 =>
      rw [hs _ _ _ _ _ _ h1]
      exact ev_stepn_X hs h
    · cases h
abbrev ev_calld (d : Nat) : Nat → List Value → List ev_E → Nat → Option ev_Z := ev_call ev_CN ev_ft ev_nf ev_PEs ev_Lk ev_TXs ev_P 100000 d
def ev_stepM (M : ev_M) (d : Nat) (X : ev_X) : Nat → List (Nat × Value) → List Value → List ev_E → Nat → Option ev_S := ev_one ev_CN ev_ft ev_nf ev_PEs ev_Lk ev_P X M (ev_calld d)
def ev_M165 : ev_M := match ev_P 165 with
  | some M => M
  | none => ev_Mlaw
def ev_step12 (X : ev_X) : Nat → List (Nat × Value) → List Value → List ev_E → Nat → Option ev_S := ev_stepM ev_M165 11 X
def ev_eqE : ev_E → ev_E → Bool
  | .inl a, .inl b => decide (a.1 = b.1) && (Nat.beq a.2.1 b.2.1 && decide (a.2.2 = b.2.2))
  | .inr a, .inr b => Nat.beq a.1 b.1 && decide (a.2 = b.2)
  | _, _ => false
theorem ev_eqE_ok {x y : ev_E} (h : ev_eqE x y = true) : x = y := by
  cases x with
  | inl a =>
    cases y with
    | inl b =>
      obtain ⟨a1, a2, a3⟩ := a
      obtain ⟨b1, b2, b3⟩ := b
      have h : (decide (a1 = b1) && (Nat.beq a2 b2 && decide (a3 = b3))) = true := h
      rw [Bool.and_eq_true, Bool.and_eq_true] at h
      obtain ⟨h1, h2, h3⟩ := h
      rw [of_decide_eq_true h1, Nat.eq_of_beq_eq_true h2, of_decide_eq_true h3]
    | inr b => cases h
  | inr a =>
    cases y with
    | inl b => cases h
    | inr b =>
      obtain ⟨a1, a2⟩ := a
      obtain ⟨b1, b2⟩ := b
      have h : (Nat.beq a1 b1 && decide (a2 = b2)) = true := h
      rw [Bool.and_eq_true] at h
      rw [Nat.eq_of_beq_eq_true h.1, of_decide_eq_true h.2]
def ev_eqH : List ev_E → List ev_E → Bool
  | [], [] => true
  | x :: l, y :: t => ev_eqE x y && ev_eqH l t
  | _, _ => false
theorem ev_eqH_ok : ∀ {l t : List ev_E}, ev_eqH l t = true → l = t
  | [], [], _ => rfl
  | [], _ :: _, h => by cases h
  | _ :: _, [], h => by cases h
  | x :: l, y :: t, h => by
    have h : (ev_eqE x y && ev_eqH l t) = true := h
    rw [Bool.and_eq_true] at h
    rw [ev_eqE_ok h.1, ev_eqH_ok h.2]
def ev_eqS (S T : ev_S) : Bool := Nat.beq S.1 T.1 && (decide (S.2.1 = T.2.1) && (decide (S.2.2.1 = T.2.2.1) && (ev_eqH S.2.2.2.1 T.2.2.2.1 && (Nat.beq S.2.2.2.2.1 T.2.2.2.2.1 && (Nat.beq S.2.2.2.2.2.1 T.2.2.2.2.2.1 && Nat.beq S.2.2.2.2.2.2 T.2.2.2.2.2.2)))))
def ev_segB (o : Option ev_S) (T : ev_S) : Bool := match o with
  | some S => ev_eqS S T
  | none => false
theorem ev_segB_ok {o : Option ev_S} {T : ev_S} (h : ev_segB o T = true) : o = some T := by
  unfold ev_segB at h
  split at h
  · next S =>
    obtain ⟨a1, a2, a3, a4, a5, a6, a7⟩ := S
    obtain ⟨b1, b2, b3, b4, b5, b6, b7⟩ := T
    unfold ev_eqS at h
    simp only [Bool.and_eq_true] at h
    obtain ⟨h1, h2, h3, h4, h5, h6, h7⟩ := h
    rw [Nat.eq_of_beq_eq_true h1, of_decide_eq_true h2, of_decide_eq_true h3, ev_eqH_ok h4, Nat.eq_of_beq_eq_true h5, Nat.eq_of_beq_eq_true h6, Nat.eq_of_beq_eq_true h7]
  · cases h
