/-! ENGINES: what has an end has a beginning -/
section OQZ
variable {k N M m t p n i j g : Nat} {φ ψ own up : Nat → Nat} {S T : ev_St} {CA CI : Nat → List INS} {In InA InB InY : Nat → Int → Prop} {A B Y L : List INS} {x z : INS}
/-- labels: the groups that have begun for sure -/
def lbI (In : Nat → Int → Prop) (i : Nat) (x : INS) : Prop := ∀ g : Int, (x.1 = 2 → In ((i : Int) + x.2.1).toNat g → In i g) ∧ (x.1 = 3 ∨ x.1 = 4 → In (i + 1) g ∨ In ((i : Int) + x.2.1).toNat g → In i g) ∧ (x.1 = 0 ∨ x.1 = 1 → In (i + 1) g → In i g) ∧ (x.1 = 5 → (In (i + 1) g → In i g ∨ x.2.1 = 2 * g) ∧ (x.2.1 = 2 * g + 1 → In i g) ∧ 2 ≤ x.2.1 ∧ x.2.1 < 20)
def LBs (L : List INS) (In : Nat → Int → Prop) : Prop := (∀ g, ¬ In 0 g) ∧ (∀ i g, L.length ≤ i → ¬ In i g) ∧ ∀ i x, L[i]? = some x → lbI In i x ∧ tgI i L.length x
def LB (L : List INS) : Prop := ∃ In, LBs L In
def apI (a : Nat) (InA InB : Nat → Int → Prop) (i : Nat) (g : Int) : Prop := (i < a ∧ InA i g) ∨ (a ≤ i ∧ InB (i - a) g)
def csI (InA : Nat → Int → Prop) (i : Nat) (g : Int) : Prop := 1 ≤ i ∧ InA (i - 1) g
/-- what a label tells of the places that are gone to -/
theorem lbI_m {In2 : Nat → Int → Prop} {b : Nat} (h : lbI In i x) (h1 : ∀ g, In2 (b + i + 1) g → In (i + 1) g) (h2 : x.1 = 2 ∨ x.1 = 3 ∨ x.1 = 4 → ∀ g, In2 (((b + i : Nat) : Int) + x.2.1).toNat g → In ((i : Int) + x.2.1).toNat g) (h3 : ∀ g, In i g → In2 (b + i) g) : lbI In2 (b + i) x := fun g => by
  obtain ⟨a1, a2, a3, a4⟩ := h g
  refine ⟨fun z w => h3 g (a1 z (h2 (Or.inl z) g w)), fun z w => h3 g (a2 z ?_), fun z w => h3 g (a3 z (h1 g w)), fun z => ⟨fun w => ?_, fun w => h3 g ((a4 z).2.1 w), (a4 z).2.2⟩⟩
  · rcases w with w | w
    · exact Or.inl (h1 g w)
    · exact Or.inr (h2 (Or.inr z) g w)
  · rcases (a4 z).1 (h1 g w) with q | q
    · exact Or.inl (h3 g q)
    · exact Or.inr q
theorem LBs_app (ha : LBs A InA) (hb : LBs B InB) : LBs (A ++ B) (apI A.length InA InB) := by
  obtain ⟨a1, a2, a3⟩ := ha
  obtain ⟨b1, b2, b3⟩ := hb
  have low : ∀ j g, j ≤ A.length → apI A.length InA InB j g → InA j g := fun j g hj h => by
    rcases h with ⟨_, h⟩ | ⟨h1, h2⟩
    · exact h
    · rw [show j - A.length = 0 by omega] at h2
      exact absurd h2 (b1 g)
  refine ⟨fun g h => a1 g (low 0 g (Nat.zero_le _) h), fun i g hi h => ?_, fun i x h => ?_⟩
  · rw [List.length_append] at hi
    rcases h with ⟨h1, _⟩ | ⟨h1, h2⟩
    · omega
    · exact b2 _ g (by omega) h2
  · by_cases e : i < A.length
    · rw [List.getElem?_append_left e] at h
      obtain ⟨q1, q2⟩ := a3 i x h
      have l := lbI_m (In2 := apI A.length InA InB) (b := 0) q1 (fun g w => low _ g (by omega) (by rw [Nat.zero_add] at w; exact w)) (fun hx g w => by
        rw [Nat.zero_add] at w
        refine low _ g ?_ w
        rcases q2 with ⟨_, u1, u2⟩ | ⟨u, _⟩
        · omega
        · exact absurd hx u) (fun g w => by rw [Nat.zero_add]; exact Or.inl ⟨e, w⟩)
      rw [Nat.zero_add] at l
      refine ⟨l, ?_⟩
      rw [List.length_append]
      have q := tgI_up (a := 0) (c := B.length) q2
      rw [Nat.zero_add, Nat.zero_add] at q
      exact q
    · rw [List.getElem?_append_right (by omega)] at h
      obtain ⟨q1, q2⟩ := b3 _ x h
      have hi : A.length + (i - A.length) = i := by omega
      have up : ∀ j g, apI A.length InA InB (A.length + j) g → InB j g := fun j g h => by
        rcases h with ⟨h1, _⟩ | ⟨h1, h2⟩
        · omega
        · rw [show A.length + j - A.length = j by omega] at h2
          exact h2
      have l := lbI_m (In2 := apI A.length InA InB) (b := A.length) q1 (fun g w => up _ g w) (fun hx g w => by
        rcases q2 with ⟨_, u1, u2⟩ | ⟨u, _⟩
        · rw [show (((A.length + (i - A.length) : Nat) : Int) + x.2.1).toNat = A.length + (((i - A.length : Nat) : Int) + x.2.1).toNat by omega] at w
          exact up _ g w
        · exact absurd hx u) (fun g w => Or.inr ⟨by omega, by rw [show A.length + (i - A.length) - A.length = i - A.length by omega]; exact w⟩)
      rw [hi] at l
      refine ⟨l, ?_⟩
      rw [List.length_append]
      have q := tgI_up (a := A.length) (c := 0) q2
      rw [Nat.add_zero, hi] at q
      exact q
theorem LBs_cons (hx : x.1 = 2 ∨ x.1 = 3 ∨ x.1 = 4) (h1 : 0 ≤ x.2.1) (h2 : x.2.1 ≤ ((A.length + 1 : Nat) : Int)) (ha : LBs A InA) (ht : ∀ g, ¬ csI InA x.2.1.toNat g) : LBs (x :: A) (csI InA) := by
  obtain ⟨a1, a2, a3⟩ := ha
  refine ⟨fun g h => absurd h.1 (by decide), fun i g hi h => ?_, fun i y h => ?_⟩
  · rw [List.length_cons] at hi
    exact a2 (i - 1) g (by omega) h.2
  · rw [List.length_cons]
    cases i with
    | zero =>
      have e : x = y := Option.some.inj h
      rw [← e]
      have t0 : ((0 : Nat) : Int) + x.2.1 = x.2.1 := by omega
      refine ⟨fun g => ?_, Or.inl ⟨hx, by omega, by omega⟩⟩
      rw [t0]
      refine ⟨fun z w => absurd w (ht g), fun z w => ?_, fun z => by omega, fun z => by omega⟩
      rcases w with w | w
      · exact absurd w.2 (a1 g)
      · exact absurd w (ht g)
    | succ i =>
      rw [List.getElem?_cons_succ] at h
      obtain ⟨q1, q2⟩ := a3 i y h
      have l := lbI_m (In2 := csI InA) (b := 1) q1 (fun g w => by
        have := w.2
        rw [show 1 + i + 1 - 1 = i + 1 by omega] at this
        exact this) (fun hx g w => by
        rcases q2 with ⟨_, u1, u2⟩ | ⟨u, _⟩
        · have := w.2
          rw [show (((1 + i : Nat) : Int) + y.2.1).toNat - 1 = ((i : Int) + y.2.1).toNat by omega] at this
          exact this
        · exact absurd hx u) (fun g w => ⟨by omega, by rw [show 1 + i - 1 = i by omega]; exact w⟩)
      rw [Nat.add_comm 1 i] at l
      have q := tgI_up (a := 1) (c := 0) q2
      rw [Nat.add_zero, Nat.add_comm 1 i, Nat.add_comm 1 A.length] at q
      exact ⟨l, q⟩
theorem LB_0 : LB [] := ⟨fun _ _ => False, fun _ h => h, fun _ _ _ h => h, fun i x h => by cases h⟩
theorem LB_1 (hx : x.1 = 0 ∨ x.1 = 1) (ht : tgI 0 1 x) : LB [x] := ⟨fun _ _ => False, fun _ h => h, fun _ _ _ h => h, fun i y hy => by
  cases i with
  | zero =>
    have e : x = y := Option.some.inj hy
    rw [← e]
    exact ⟨fun g => ⟨fun _ w => w, fun _ w => by rcases w with w | w <;> exact w, fun _ w => w, fun z => by omega⟩, ht⟩
  | succ i => cases hy⟩
theorem LB_app (ha : LB A) (hb : LB B) : LB (A ++ B) := by
  obtain ⟨I1, h1⟩ := ha
  obtain ⟨I2, h2⟩ := hb
  exact ⟨_, LBs_app h1 h2⟩
theorem LB_flat : ∀ l : List (List INS), (∀ a, a ∈ l → LB a) → LB l.flatten
  | [], _ => LB_0
  | a :: l, h => by
    rw [List.flatten_cons]
    exact LB_app (h a List.mem_cons_self) (LB_flat l fun b hb => h b (List.mem_cons_of_mem _ hb))
theorem LB_cdR : ∀ l : List (List INS), (∀ a, a ∈ l → LB a) → LB (cdR l)
  | [], _ => LB_0
  | [r], h => h r List.mem_cons_self
  | r :: s :: rs, h => by
    have ih := LB_cdR (s :: rs) fun a ha => h a (List.mem_cons_of_mem _ ha)
    have hr := h r List.mem_cons_self
    show LB ((ins 3 ((r.length : Int) + 2) :: r) ++ ins 2 (((cdR (s :: rs)).length : Int) + 1) :: cdR (s :: rs))
    generalize cdR (s :: rs) = B at ih ⊢
    rw [List.cons_append]
    obtain ⟨I1, h1⟩ := hr
    obtain ⟨I2, h2⟩ := ih
    have j := LBs_cons (x := ins 2 ((B.length : Int) + 1)) (Or.inl rfl) (by show (0 : Int) ≤ (B.length : Int) + 1; omega) (by show (B.length : Int) + 1 ≤ _; omega) h2 (fun g w => h2.2.1 _ g (by show B.length ≤ ((B.length : Int) + 1).toNat - 1; omega) w.2)
    have a := LBs_app h1 j
    refine ⟨_, LBs_cons (x := ins 3 ((r.length : Int) + 2)) (Or.inr (Or.inl rfl)) ?_ ?_ a (fun g w => ?_)⟩
    · show (0 : Int) ≤ (r.length : Int) + 2
      omega
    · show (r.length : Int) + 2 ≤ _
      rw [List.length_append, List.length_cons]
      omega
    · have w2 := w.2
      rw [show (ins 3 ((r.length : Int) + 2)).2.1.toNat - 1 = r.length + 1 by show ((r.length : Int) + 2).toNat - 1 = _; omega] at w2
      rcases w2 with ⟨u, _⟩ | ⟨_, u⟩
      · omega
      · have := u.2
        rw [show r.length + 1 - r.length - 1 = 0 by omega] at this
        exact h2.1 g this
theorem LB_more {fork lo hi : Int} {copies : Nat} (hf : fork = 3 ∨ fork = 4) (hh : hi ≠ -1) (hy : LB Y) : ∀ r i : Nat, i + r = copies → LB (moreL fork lo hi copies Y r i)
  | 0, i, _ => LB_0
  | r + 1, i, h => by
    have ih := LB_more (lo := lo) (copies := copies) hf hh hy r (i + 1) (by omega)
    unfold moreL
    rw [if_neg hh]
    by_cases z : (i : Int) < lo
    · rw [if_pos z, List.nil_append]
      exact LB_app hy ih
    · rw [if_neg z, List.append_assoc, List.singleton_append]
      have l := moreL_n (fork := fork) (lo := lo) (hi := hi) (copies := copies) (Y := Y) r (i + 1) (by omega)
      have e : ((copies : Int) - (i : Int)) * ((Y.length : Int) + 1) = ((r * (Y.length + 1) : Nat) : Int) + (Y.length : Int) + 1 := by
        rw [show (copies : Int) - (i : Int) = ((r + 1 : Nat) : Int) from by omega, show (Y.length : Int) + 1 = ((Y.length + 1 : Nat) : Int) from by omega, ← Int.natCast_mul, Nat.succ_mul]
        omega
      obtain ⟨I1, h1⟩ := LB_app hy ih
      have ln : (Y ++ moreL fork lo hi copies Y r (i + 1)).length = Y.length + r * (Y.length + 1) := by
        rw [List.length_append, l]
      refine ⟨_, LBs_cons (Or.inr hf) ?_ ?_ h1 (fun g w => ?_)⟩
      · rw [e]
        show (0 : Int) ≤ ((r * (Y.length + 1) : Nat) : Int) + (Y.length : Int) + 1
        omega
      · rw [e, ln]
        show ((r * (Y.length + 1) : Nat) : Int) + (Y.length : Int) + 1 ≤ ((Y.length + r * (Y.length + 1) + 1 : Nat) : Int)
        omega
      · refine h1.2.1 _ g ?_ w.2
        rw [ln, e]
        show _ ≤ (((r * (Y.length + 1) : Nat) : Int) + (Y.length : Int) + 1).toNat - 1
        omega
theorem LB_end {fork : Int} (hf : fork = 3 ∨ fork = 4) (hy : LB Y) : LB (ins fork ((Y.length : Int) + 2) :: (Y ++ [ins 2 (-((Y.length : Int) + 1))])) := by
  have ln : (ins fork ((Y.length : Int) + 2) :: (Y ++ [ins 2 (-((Y.length : Int) + 1))])).length = Y.length + 2 := by
    rw [List.length_cons, List.length_append]
    rfl
  obtain ⟨InY, y1, y2, y3⟩ := hy
  refine ⟨csI InY, fun g h => absurd h.1 (by decide), fun i g hi h => y2 _ g (by omega) h.2, fun i x h => ?_⟩
  rw [ln]
  cases i with
  | zero =>
    have e : ins fork ((Y.length : Int) + 2) = x := Option.some.inj h
    rw [← e]
    have t0 : ((((0 : Nat) : Int) + ((Y.length : Int) + 2))).toNat = Y.length + 2 := by omega
    have nf : ∀ g, ¬ csI InY (Y.length + 2) g := fun g w => y2 _ g (by omega) w.2
    refine ⟨fun g => ⟨fun z => ?_, fun z w => ?_, fun z => ?_, fun z => ?_⟩, Or.inl ⟨Or.inr hf, ?_, ?_⟩⟩
    · exact absurd (show fork = 2 from z) (by omega)
    · rcases w with w | w
      · exact absurd w.2 (y1 g)
      · have w' : csI InY ((((0 : Nat) : Int) + ((Y.length : Int) + 2))).toNat g := w
        rw [t0] at w'
        exact absurd w' (nf g)
    · exact absurd (show fork = 0 ∨ fork = 1 from z) (by omega)
    · exact absurd (show fork = 5 from z) (by omega)
    · show (0 : Int) ≤ ((0 : Nat) : Int) + ((Y.length : Int) + 2)
      omega
    · show ((0 : Nat) : Int) + ((Y.length : Int) + 2) ≤ _
      omega
  | succ i =>
    rw [List.getElem?_cons_succ] at h
    by_cases z : i < Y.length
    · rw [List.getElem?_append_left z] at h
      obtain ⟨q1, q2⟩ := y3 i x h
      have l := lbI_m (In2 := csI InY) (b := 1) q1 (fun g w => by
        have := w.2
        rw [show 1 + i + 1 - 1 = i + 1 by omega] at this
        exact this) (fun hx g w => by
        rcases q2 with ⟨_, u1, u2⟩ | ⟨u, _⟩
        · have := w.2
          rw [show (((1 + i : Nat) : Int) + x.2.1).toNat - 1 = ((i : Int) + x.2.1).toNat by omega] at this
          exact this
        · exact absurd hx u) (fun g w => ⟨by omega, by rw [show 1 + i - 1 = i by omega]; exact w⟩)
      rw [Nat.add_comm 1 i] at l
      have q := tgI_up (a := 1) (c := 1) q2
      rw [Nat.add_comm 1 i, show 1 + Y.length + 1 = Y.length + 2 from by omega] at q
      exact ⟨l, q⟩
    · rw [List.getElem?_append_right (by omega)] at h
      have ei : i = Y.length := by
        by_cases y : i - Y.length = 0
        · omega
        · rw [List.getElem?_eq_none (by show 1 ≤ _; omega)] at h
          cases h
      rw [ei, Nat.sub_self] at h
      have e : ins 2 (-((Y.length : Int) + 1)) = x := Option.some.inj h
      rw [← e, ei]
      have t0 : ((((Y.length + 1 : Nat) : Int) + (-((Y.length : Int) + 1)))).toNat = 0 := by omega
      refine ⟨fun g => ⟨fun _ w => ?_, fun z => ?_, fun z => ?_, fun z => ?_⟩, Or.inl ⟨Or.inl rfl, ?_, ?_⟩⟩
      · have w' : csI InY ((((Y.length + 1 : Nat) : Int) + (-((Y.length : Int) + 1)))).toNat g := w
        rw [t0] at w'
        exact absurd w'.1 (by decide)
      · exact absurd (show (2 : Int) = 3 ∨ (2 : Int) = 4 from z) (by omega)
      · exact absurd (show (2 : Int) = 0 ∨ (2 : Int) = 1 from z) (by omega)
      · exact absurd (show (2 : Int) = 5 from z) (by omega)
      · show (0 : Int) ≤ ((Y.length + 1 : Nat) : Int) + (-((Y.length : Int) + 1))
        omega
      · show ((Y.length + 1 : Nat) : Int) + (-((Y.length : Int) + 1)) ≤ _
        omega
theorem LB_moreE {fork lo : Int} {copies : Nat} (hf : fork = 3 ∨ fork = 4) (hy : LB Y) : ∀ a i : Nat, (i : Int) + a = lo → LB (moreL fork lo (-1) copies Y (a + 1) i ++ tailL (-1) Y)
  | 0, i, h => by
    have e : moreL fork lo (-1) copies Y (0 + 1) i ++ tailL (-1) Y = ins fork ((Y.length : Int) + 2) :: (Y ++ [ins 2 (-((Y.length : Int) + 1))]) := by
      unfold moreL moreL tailL
      rw [if_neg (by omega), if_pos rfl, if_pos rfl]
      simp
    rw [e]
    exact LB_end hf hy
  | a + 1, i, h => by
    have ih := LB_moreE (lo := lo) (copies := copies) hf hy a (i + 1) (by omega)
    have e : moreL fork lo (-1) copies Y (a + 1 + 1) i ++ tailL (-1) Y = Y ++ (moreL fork lo (-1) copies Y (a + 1) (i + 1) ++ tailL (-1) Y) := by
      rw [moreL, if_pos (by omega), List.nil_append, List.append_assoc]
    rw [e]
    exact LB_app hy ih
theorem LB_rep {fork lo hi : Int} (hf : fork = 3 ∨ fork = 4) (hlo : 0 ≤ lo) (hy : LB Y) : LB (repL fork lo hi Y) := by
  unfold repL
  by_cases c0 : cpsN lo hi = 0
  · rw [if_pos c0]
    exact LB_0
  · rw [if_neg c0]
    by_cases z : hi = -1
    · subst z
      have ec : cpsN lo (-1) = lo.toNat + 1 := by
        unfold cpsN
        rw [if_pos rfl]
        omega
      have q := LB_moreE (fork := fork) (lo := lo) (copies := cpsN lo (-1)) hf hy lo.toNat 0 (by omega)
      rw [← ec] at q
      exact q
    · have et : tailL hi Y = [] := if_neg z
      rw [et, List.append_nil]
      exact LB_more hf z hy _ 0 (by omega)
/-- a group: its beginning, what is in it, its end -/
theorem LB_grp {u : Int} (hu : 1 ≤ u ∧ u ≤ 9) (hy : LB Y) : LB (ins 5 (2 * u) :: Y ++ [ins 5 (2 * u + 1)]) := by
  have ln : (ins 5 (2 * u) :: Y ++ [ins 5 (2 * u + 1)]).length = Y.length + 2 := by
    rw [List.length_append, List.length_cons]
    rfl
  obtain ⟨InY, y1, y2, y3⟩ := hy
  refine ⟨fun i g => (1 ≤ i ∧ i ≤ Y.length + 1 ∧ g = u) ∨ csI InY i g, fun g h => ?_, fun i g hi h => ?_, fun i x h => ?_⟩
  · rcases h with h | h
    · omega
    · exact absurd h.1 (by decide)
  · rw [ln] at hi
    rcases h with h | h
    · omega
    · exact y2 _ g (by omega) h.2
  · rw [ln]
    cases i with
    | zero =>
      have e : ins 5 (2 * u) = x := Option.some.inj h
      rw [← e]
      refine ⟨fun g => ⟨fun z => ?_, fun z => ?_, fun z => ?_, fun _ => ⟨fun w => ?_, fun w => ?_, ?_, ?_⟩⟩, Or.inr ⟨?_, ?_, ?_⟩⟩
      · exact absurd (show (5 : Int) = 2 from z) (by decide)
      · exact absurd (show (5 : Int) = 3 ∨ (5 : Int) = 4 from z) (by omega)
      · exact absurd (show (5 : Int) = 0 ∨ (5 : Int) = 1 from z) (by omega)
      · rcases w with w | w
        · right
          show 2 * u = 2 * g
          omega
        · exact absurd w.2 (y1 g)
      · exact absurd (show 2 * u = 2 * g + 1 from w) (by omega)
      · show 2 ≤ 2 * u
        omega
      · show 2 * u < 20
        omega
      · show ¬ ((5 : Int) = 2 ∨ (5 : Int) = 3 ∨ (5 : Int) = 4)
        omega
      · show 0 ≤ 2 * u
        omega
      · show 2 * u ≤ 20
        omega
    | succ i =>
      rw [List.cons_append, List.getElem?_cons_succ] at h
      by_cases z : i < Y.length
      · rw [List.getElem?_append_left z] at h
        obtain ⟨q1, q2⟩ := y3 i x h
        have q := tgI_up (a := 1) (c := 1) q2
        rw [Nat.add_comm 1 i, show 1 + Y.length + 1 = Y.length + 2 from by omega] at q
        refine ⟨fun g => ?_, q⟩
        obtain ⟨a1, a2, a3, a4⟩ := q1 g
        have up : ∀ j, csI InY (j + 1) g → InY j g := fun j w => w.2
        have tj : (x.1 = 2 ∨ x.1 = 3 ∨ x.1 = 4) → (((i + 1 : Nat) : Int) + x.2.1).toNat = ((i : Int) + x.2.1).toNat + 1 := fun hx => by
          rcases q2 with ⟨_, u1, u2⟩ | ⟨u', _⟩
          · omega
          · exact absurd hx u'
        have me : g = u → (1 ≤ i + 1 ∧ i + 1 ≤ Y.length + 1 ∧ g = u) ∨ csI InY (i + 1) g := fun e => Or.inl ⟨by omega, by omega, e⟩
        refine ⟨fun z w => ?_, fun z w => ?_, fun z w => ?_, fun z => ⟨fun w => ?_, fun w => Or.inr ⟨by omega, (a4 z).2.1 w⟩, (a4 z).2.2⟩⟩
        · rw [tj (Or.inl z)] at w
          rcases w with w | w
          · exact me w.2.2
          · exact Or.inr ⟨by omega, a1 z (up _ w)⟩
        · rcases w with w | w
          · rcases w with w | w
            · exact me w.2.2
            · exact Or.inr ⟨by omega, a2 z (Or.inl (up _ w))⟩
          · rw [tj (Or.inr z)] at w
            rcases w with w | w
            · exact me w.2.2
            · exact Or.inr ⟨by omega, a2 z (Or.inr (up _ w))⟩
        · rcases w with w | w
          · exact me w.2.2
          · exact Or.inr ⟨by omega, a3 z (up _ w)⟩
        · rcases w with w | w
          · exact Or.inl (me w.2.2)
          · rcases (a4 z).1 (up _ w) with v | v
            · exact Or.inl (Or.inr ⟨by omega, v⟩)
            · exact Or.inr v
      · rw [List.getElem?_append_right (by omega)] at h
        have ei : i = Y.length := by
          by_cases y : i - Y.length = 0
          · omega
          · rw [List.getElem?_eq_none (by show 1 ≤ _; omega)] at h
            cases h
        rw [ei, Nat.sub_self] at h
        have e : ins 5 (2 * u + 1) = x := Option.some.inj h
        rw [← e, ei]
        refine ⟨fun g => ⟨fun z => ?_, fun z => ?_, fun z => ?_, fun _ => ⟨fun w => ?_, fun w => ?_, ?_, ?_⟩⟩, Or.inr ⟨?_, ?_, ?_⟩⟩
        · exact absurd (show (5 : Int) = 2 from z) (by decide)
        · exact absurd (show (5 : Int) = 3 ∨ (5 : Int) = 4 from z) (by omega)
        · exact absurd (show (5 : Int) = 0 ∨ (5 : Int) = 1 from z) (by omega)
        · rcases w with w | w
          · omega
          · exact absurd w.2 (y2 _ g (by omega))
        · exact Or.inl ⟨by omega, by omega, by have : 2 * u + 1 = 2 * g + 1 := w; omega⟩
        · show 2 ≤ 2 * u + 1
          omega
        · show 2 * u + 1 < 20
          omega
        · show ¬ ((5 : Int) = 2 ∨ (5 : Int) = 3 ∨ (5 : Int) = 4)
          omega
        · show 0 ≤ 2 * u + 1
          omega
        · show 2 * u + 1 ≤ 20
          omega
/-- all code has its labels -/
theorem LBL_all (hF : FINX k N M φ ψ own up S T) (hC : CDQ k N φ S T CA CI) (hp : ∀ m, m < N → (tK T m < 7 ∨ tK T m = 8 ∨ tK T m = 9 ∨ tK T m = 18) ∧ tR T m ≠ 2) : ∀ n m, m < N → N ≤ m + n → LB (CA m) ∧ LB (CI m) := fun n => by
  have h := TREE_of hF
  induction n with
  | zero => intro m h1 h2; omega
  | succ n ih =>
    intro m hm hn
    obtain ⟨c1, c2, c3, c4, c5, c6, c7, c8⟩ := hC m hm
    obtain ⟨kr, kk⟩ := FINX_K hF hm
    obtain ⟨p1, p2⟩ := hp m hm
    have kids : ∀ a, a ∈ (lstC (tX T) 320 (tC T m)).map CI → LB a := fun a ha => by
      obtain ⟨t, t1, t2⟩ := List.mem_map.mp ha
      have kt := lst_mb (Kid_X h) 320 0 _ (Kid_C h hm) t t1
      have lt := UP_lt hF kt.1 kt.2.1 kt.2.2.1
      rw [← t2]
      exact (ih t kt.1 (by omega)).2
    have atom : LB (CA m) := by
      by_cases k0 : tK T m = 0
      · rw [c1 k0]
        exact LB_1 (Or.inl rfl) (Or.inr ⟨by show ¬ ((0 : Int) = 2 ∨ (0 : Int) = 3 ∨ (0 : Int) = 4); omega, by show (0 : Int) ≤ 0; omega, by show (0 : Int) ≤ 20; omega⟩)
      · by_cases k7 : tK T m < 7
        · rw [c2 (by omega)]
          have ki := (kcl_i (c := tK T m) (f := T.1 629 (3840 + m)) kr).2.1 (by omega)
          have e : 1 ≤ S.1 (k + 1) (φ m) ∧ S.1 (k + 1) (φ m) ≤ 6 := by
            rcases kk with ⟨_, y, _⟩ | ⟨_, y⟩
            · omega
            · rw [y]
              exact ki
          exact LB_1 (Or.inr rfl) (Or.inr ⟨by show ¬ ((1 : Int) = 2 ∨ (1 : Int) = 3 ∨ (1 : Int) = 4); omega, by show (0 : Int) ≤ S.1 (k + 1) (φ m); omega, by show S.1 (k + 1) (φ m) ≤ 20; omega⟩)
        · rcases p1 with y | y | y | y
          · omega
          · rw [c4 y]
            have nv := (hF.1.2.2.2.1.1 m hm).1.2.2.2.1 (Or.inl y)
            exact LB_grp nv (LB_cdR _ kids)
          · rw [c5 y]
            exact LB_cdR _ kids
          · rw [c3 y]
            exact LB_flat _ kids
    refine ⟨atom, ?_⟩
    by_cases r1 : tR T m = -1
    · rw [c6 r1]
      exact atom
    · obtain ⟨rl, rh⟩ := FINX_r hF hm r1
      rcases h.2.2.2.2.2.2.2.2 m hm with ⟨z, _⟩ | ⟨⟨z | z, _⟩, _⟩ | ⟨⟨z, _⟩, _⟩
      · exact absurd z r1
      · rw [c7 z]
        exact LB_rep (Or.inl rfl) rl.1 atom
      · rw [c8 z]
        exact LB_rep (Or.inr rfl) rl.1 atom
      · exact absurd z p2
end OQZ
