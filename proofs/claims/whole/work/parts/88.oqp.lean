/-! ENGINES: all starts -/
section OQP
variable {P : Nat → T3} {E : Nat → Int → Bool} {X : Nat → SNs} {E1 : Int → Bool} {X1 lv : SNs} {n f k m pc i j r : Nat} {c c2 : CPs} {A A2 B : SNs} {ls ls2 rs rs2 : LFs} {V W : VSs} {nx : Nat → CPs → VSs → RSs} {ms : Bool}
theorem prc_sq : ∀ (ls : LFs) (V : VSs), prc P X1 k nx ls V = match (sq nx (suc X1 (cut P ls).1) V).1 with
    | some y => (some y, (sq nx (suc X1 (cut P ls).1) V).2)
    | none => (match (cut P ls).2 with
      | some c => (some (k, c), (sq nx (suc X1 (cut P ls).1) V).2)
      | none => (none, (sq nx (suc X1 (cut P ls).1) V).2)) := fun ls => by
  induction ls with
  | nil => exact fun V => rfl
  | cons x ls ih =>
    intro V
    rw [prc_c]
    by_cases z5 : (P x.1).1 = 5
    · have e2 : cut P (x :: ls) = ([], some x.2) := if_pos z5
      rw [if_pos z5, e2]
      rfl
    · have e2 : cut P (x :: ls) = (x :: (cut P ls).1, (cut P ls).2) := if_neg z5
      rw [if_neg z5, e2]
      by_cases zx : X1 x.1 = true
      · have e3 : suc X1 (x :: (cut P ls).1) = (x.1 + 1, x.2) :: suc X1 (cut P ls).1 := if_pos zx
        rw [if_pos zx, e3]
        show _ = match (sq nx ((x.1 + 1, x.2) :: suc X1 (cut P ls).1) V).1 with
          | some y => (some y, (sq nx ((x.1 + 1, x.2) :: suc X1 (cut P ls).1) V).2)
          | none => (match (cut P ls).2 with
            | some c => (some (k, c), (sq nx ((x.1 + 1, x.2) :: suc X1 (cut P ls).1) V).2)
            | none => (none, (sq nx ((x.1 + 1, x.2) :: suc X1 (cut P ls).1) V).2))
        have e4 : sq nx ((x.1 + 1, x.2) :: suc X1 (cut P ls).1) V = match (nx (x.1 + 1) x.2 V).1 with
          | some y => (some y, (nx (x.1 + 1) x.2 V).2)
          | none => sq nx (suc X1 (cut P ls).1) (nx (x.1 + 1) x.2 V).2 := rfl
        rw [e4]
        generalize nx (x.1 + 1) x.2 V = R
        obtain ⟨R1, R2⟩ := R
        cases R1 with
        | some y => rfl
        | none => exact ih R2
      · have e3 : suc X1 (x :: (cut P ls).1) = suc X1 (cut P ls).1 := if_neg zx
        rw [if_neg zx, e3]
        exact ih V
theorem sq_c {x : Nat × CPs} : sq nx (x :: rs) V = match (nx x.1 x.2 V).1 with
    | some y => (some y, (nx x.1 x.2 V).2)
    | none => sq nx rs (nx x.1 x.2 V).2 := rfl
theorem sq_app : ∀ (rs : LFs) (V : VSs), sq nx (rs ++ ls) V = match (sq nx rs V).1 with
    | some y => (some y, (sq nx rs V).2)
    | none => sq nx ls (sq nx rs V).2 := fun rs => by
  induction rs with
  | nil => exact fun V => rfl
  | cons x rs ih =>
    intro V
    show sq nx (x :: (rs ++ ls)) V = _
    rw [sq_c, sq_c]
    generalize nx x.1 x.2 V = R
    obtain ⟨R1, R2⟩ := R
    cases R1 with
    | some y => rfl
    | none => exact ih R2
/-- many roots at a place, in one go -/
theorem bats (hn : NXk k nx) : ∀ (rs : LFs) (V : VSs), (sq (rnS P E1 X1 k nx n) rs V).1 = (prc P X1 k nx (dfsL P E1 k n rs (V k)).1 V).1 ∧ ((sq (rnS P E1 X1 k nx n) rs V).1 = none → ∀ j, (sq (rnS P E1 X1 k nx n) rs V).2 j = if j = k then (dfsL P E1 k n rs (V k)).2 else (prc P X1 k nx (dfsL P E1 k n rs (V k)).1 V).2 j) := fun rs => by
  induction rs with
  | nil =>
    refine fun V => ⟨rfl, fun _ j => ?_⟩
    show V j = if j = k then V k else V j
    split
    · next e => rw [e]
    · rfl
  | cons x rs ih =>
    intro V
    obtain ⟨i1, i2⟩ := bat (P := P) (E1 := E1) (X1 := X1) hn n x.1 x.2 V
    have pa := prc_app (P := P) (X1 := X1) (k := k) (nx := nx) (ls2 := (dfsL P E1 k n rs (dfs P E1 k n x.1 x.2 (V k)).2).1) (dfs P E1 k n x.1 x.2 (V k)).1 V
    rw [sq_c, dfsL_c]
    dsimp only
    rw [pa]
    generalize hR : rnS P E1 X1 k nx n x.1 x.2 V = R at i1 i2 ⊢
    generalize hD : dfs P E1 k n x.1 x.2 (V k) = D1 at i1 i2 ⊢
    have pn := prc_N (P := P) (X1 := X1) hn D1.1 V
    generalize hG : prc P X1 k nx D1.1 V = G at i1 i2 pn ⊢
    obtain ⟨R1, R2⟩ := R
    obtain ⟨G1, G2⟩ := G
    have i1' : R1 = G1 := i1
    subst i1'
    cases R1 with
    | some y => exact ⟨rfl, fun h => by cases h⟩
    | none =>
      have i2' : ∀ j, R2 j = if j = k then D1.2 else G2 j := i2 rfl
      obtain ⟨j1, j2⟩ := ih R2
      rw [i2' k, if_pos rfl] at j1 j2
      obtain ⟨p0, p1⟩ := prc_N (P := P) (X1 := X1) hn (dfsL P E1 k n rs D1.2).1 R2
      obtain ⟨p2, p3⟩ := p1 G2 (fun j hj => by rw [i2' j, if_neg (by omega)])
      refine ⟨j1.trans p2, fun h j => ?_⟩
      show (sq (rnS P E1 X1 k nx n) rs R2).2 j = _
      rw [j2 h j]
      by_cases e : j = k
      · rw [if_pos e, if_pos e]
      · rw [if_neg e, if_neg e]
        by_cases e2 : k < j
        · exact p3 j e2
        · show (prc P X1 k nx (dfsL P E1 k n rs D1.2).1 R2).2 j = (prc P X1 k nx (dfsL P E1 k n rs D1.2).1 G2).2 j
          rw [p0 j (by omega), (prc_N (P := P) (X1 := X1) hn _ G2).1 j (by omega), i2' j, if_neg e]
/-- each place as a start, in order -/
def stt (P : Nat → T3) (n : Nat) (E : Nat → Int → Bool) (X : Nat → SNs) : Nat → Nat → VSs → Option (Nat × CPs)
  | 0, k, V => (rn P n E X 1 k 0 (c0 k) V).1
  | r + 1, k, V => match (rn P n E X (r + 2) k 0 (c0 k) V).1 with
    | some x => some x
    | none => stt P n E X r (k + 1) (rn P n E X (r + 2) k 0 (c0 k) V).2
theorem stt_N : ∀ r k (V W : VSs), (∀ j, k < j → V j = W j) → stt P n E X r (k + 1) V = stt P n E X r (k + 1) W := fun r => by
  induction r with
  | zero =>
    intro k V W h
    exact ((rn_N (P := P) (n := n) (E := E) (X := X) 1 (k + 1) k (Nat.lt_succ_self k)).2 0 (c0 (k + 1)) V W h).1
  | succ r ih =>
    intro k V W h
    obtain ⟨q1, q2⟩ := (rn_N (P := P) (n := n) (E := E) (X := X) (r + 2) (k + 1) k (Nat.lt_succ_self k)).2 0 (c0 (k + 1)) V W h
    unfold stt
    rw [q1]
    have i := ih (k + 1) (rn P n E X (r + 2) (k + 1) 0 (c0 (k + 1)) V).2 (rn P n E X (r + 2) (k + 1) 0 (c0 (k + 1)) W).2 (fun j hj => q2 j (by omega))
    rw [i]
theorem sq_0 : ∀ (rs : LFs) (V : VSs), sq (rn P n E X 0 k) rs V = (none, V) := fun rs => by
  induction rs with
  | nil => exact fun V => rfl
  | cons x rs ih => exact fun V => ih V
/-- trying back comes to what threads come to -/
theorem FT : ∀ r k (rs : LFs) (V : VSs), (∀ j, k ≤ j → V j = fun _ => false) → (match (sq (rn P n E X (r + 1) k) rs V).1 with
    | some x => some x
    | none => stt P n E X r k (sq (rn P n E X (r + 1) k) rs V).2) = PK P n E X (fun _ => true) r k rs true ∧ (sq (rn P n E X (r + 1) k) rs V).1 = PK P n E X (fun _ => true) r k rs false := fun r => by
  -- the start as a root more
  have app : ∀ r k (rs : LFs) (V : VSs), sq (rn P n E X (r + 1) k) (rs ++ [(0, c0 k)]) V = match (sq (rn P n E X (r + 1) k) rs V).1 with
      | some y => (some y, (sq (rn P n E X (r + 1) k) rs V).2)
      | none => rn P n E X (r + 1) k 0 (c0 k) (sq (rn P n E X (r + 1) k) rs V).2 := fun r k rs V => by
    rw [sq_app]
    have e : ∀ W, sq (rn P n E X (r + 1) k) [(0, c0 k)] W = rn P n E X (r + 1) k 0 (c0 k) W := fun W => by
      show (match (rn P n E X (r + 1) k 0 (c0 k) W).1 with
        | some y => (some y, (rn P n E X (r + 1) k 0 (c0 k) W).2)
        | none => (none, (rn P n E X (r + 1) k 0 (c0 k) W).2)) = _
      generalize rn P n E X (r + 1) k 0 (c0 k) W = R
      obtain ⟨R1, R2⟩ := R
      cases R1 <;> rfl
    rw [e]
  induction r with
  | zero =>
    intro k rs V hV
    have hn := rn_N (P := P) (n := n) (E := E) (X := X) 0 (k + 1) k (Nat.lt_succ_self k)
    have go : ∀ ms, (sq (rn P n E X (0 + 1) k) (rts k rs ms) V).1 = PK P n E X (fun _ => true) 0 k rs ms := fun ms => by
      have b := (bats (P := P) (n := n) (E1 := E k) (X1 := X k) hn (rts k rs ms) V).1
      rw [hV k (Nat.le_refl k), prc_sq, sq_0] at b
      unfold PK
      rw [flt_t]
      refine Eq.trans b ?_
      show (match (cut P (dfsL P (E k) k n (rts k rs ms) fun _ => false).1).2 with
        | some c => (some (k, c), V)
        | none => (none, V)).1 = _
      generalize (cut P (dfsL P (E k) k n (rts k rs ms) fun _ => false).1).2 = o
      cases o <;> rfl
    refine ⟨?_, go false⟩
    rw [← go true]
    show _ = (sq (rn P n E X (0 + 1) k) (rs ++ [(0, c0 k)]) V).1
    rw [app]
    generalize sq (rn P n E X (0 + 1) k) rs V = R
    obtain ⟨R1, R2⟩ := R
    cases R1 <;> rfl
  | succ r ih =>
    intro k rs V hV
    have hn := rn_N (P := P) (n := n) (E := E) (X := X) (r + 1) (k + 1) k (Nat.lt_succ_self k)
    have hV1 : ∀ j, k + 1 ≤ j → V j = fun _ => false := fun j hj => hV j (by omega)
    have go : ∀ ms, (sq (rn P n E X (r + 1 + 1) k) (rts k rs ms) V).1 = (match (sq (rn P n E X (r + 1) (k + 1)) (suc (X k) (cut P (dfsL P (E k) k n (rts k rs ms) fun _ => false).1).1) V).1 with
        | some y => some y
        | none => (match (cut P (dfsL P (E k) k n (rts k rs ms) fun _ => false).1).2 with
          | some c => some (k, c)
          | none => none)) ∧ ((sq (rn P n E X (r + 1 + 1) k) (rts k rs ms) V).1 = none → ∀ j, k < j → (sq (rn P n E X (r + 1 + 1) k) (rts k rs ms) V).2 j = (sq (rn P n E X (r + 1) (k + 1)) (suc (X k) (cut P (dfsL P (E k) k n (rts k rs ms) fun _ => false).1).1) V).2 j) := fun ms => by
      obtain ⟨b, b2⟩ := bats (P := P) (n := n) (E1 := E k) (X1 := X k) hn (rts k rs ms) V
      rw [hV k (Nat.le_refl k), prc_sq] at b b2
      generalize sq (rn P n E X (r + 1) (k + 1)) (suc (X k) (cut P (dfsL P (E k) k n (rts k rs ms) fun _ => false).1).1) V = R at b b2 ⊢
      generalize (cut P (dfsL P (E k) k n (rts k rs ms) fun _ => false).1).2 = o at b b2 ⊢
      obtain ⟨R1, R2⟩ := R
      cases R1 with
      | some y => exact ⟨b, fun h => by rw [show (sq (rn P n E X (r + 1 + 1) k) (rts k rs ms) V).1 = some y from b] at h; cases h⟩
      | none =>
        cases o with
        | some c => exact ⟨b, fun h => by rw [show (sq (rn P n E X (r + 1 + 1) k) (rts k rs ms) V).1 = some (k, c) from b] at h; cases h⟩
        | none =>
          refine ⟨b, fun h j hj => ?_⟩
          have := b2 h j
          rw [if_neg (show ¬ j = k by omega)] at this
          exact this
    -- the second: no new starts
    have two : ∀ rs : LFs, (sq (rn P n E X (r + 1) (k + 1)) rs V).1 = PK P n E X (fun _ => true) r (k + 1) rs false := fun rs => (ih (k + 1) rs V hV1).2
    refine ⟨?_, ?_⟩
    · obtain ⟨g1, g2⟩ := go true
      have e1 : (match (sq (rn P n E X (r + 1 + 1) k) rs V).1 with
          | some x => some x
          | none => stt P n E X (r + 1) k (sq (rn P n E X (r + 1 + 1) k) rs V).2) = match (sq (rn P n E X (r + 1 + 1) k) (rts k rs true) V).1 with
          | some x => some x
          | none => stt P n E X r (k + 1) (sq (rn P n E X (r + 1 + 1) k) (rts k rs true) V).2 := by
        show _ = match (sq (rn P n E X (r + 1 + 1) k) (rs ++ [(0, c0 k)]) V).1 with
          | some x => some x
          | none => stt P n E X r (k + 1) (sq (rn P n E X (r + 1 + 1) k) (rs ++ [(0, c0 k)]) V).2
        rw [app]
        generalize sq (rn P n E X (r + 1 + 1) k) rs V = R
        obtain ⟨R1, R2⟩ := R
        cases R1 <;> rfl
      rw [e1]
      have i1 := (ih (k + 1) (suc (X k) (cut P (dfsL P (E k) k n (rts k rs true) fun _ => false).1).1) V hV1).1
      have i2 := two (suc (X k) (cut P (dfsL P (E k) k n (rts k rs true) fun _ => false).1).1)
      unfold PK
      rw [flt_t]
      generalize hs : sq (rn P n E X (r + 1 + 1) k) (rts k rs true) V = S at g1 g2 ⊢
      generalize hr : sq (rn P n E X (r + 1) (k + 1)) (suc (X k) (cut P (dfsL P (E k) k n (rts k rs true) fun _ => false).1).1) V = R at g1 g2 i1 i2
      generalize (cut P (dfsL P (E k) k n (rts k rs true) fun _ => false).1).2 = o at g1 ⊢
      obtain ⟨S1, S2⟩ := S
      obtain ⟨R1, R2⟩ := R
      cases o with
      | some c =>
        have i2' : R1 = PK P n E X (fun _ => true) r (k + 1) (suc (X k) (cut P (dfsL P (E k) k n (rts k rs true) fun _ => false).1).1) false := i2
        rw [← i2']
        cases R1 with
        | some y =>
          have g1' : S1 = some y := g1
          rw [g1']
        | none =>
          have g1' : S1 = some (k, c) := g1
          rw [g1']
      | none =>
        rw [← i1]
        cases R1 with
        | some y =>
          have g1' : S1 = some y := g1
          rw [g1']
        | none =>
          have g1' : S1 = none := g1
          rw [g1']
          exact stt_N r k S2 R2 (fun j hj => g2 g1' j hj)
    · obtain ⟨g1, _⟩ := go false
      have i2 := two (suc (X k) (cut P (dfsL P (E k) k n (rts k rs false) fun _ => false).1).1)
      show (sq (rn P n E X (r + 1 + 1) k) (rts k rs false) V).1 = _
      rw [g1]
      unfold PK
      rw [flt_t, i2]
      generalize PK P n E X (fun _ => true) r (k + 1) (suc (X k) (cut P (dfsL P (E k) k n (rts k rs false) fun _ => false).1).1) false = R
      generalize (cut P (dfsL P (E k) k n (rts k rs false) fun _ => false).1).2 = o
      cases o <;> cases R <;> rfl
end OQP
