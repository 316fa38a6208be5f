/-! LITERAL: both walks, side by side -/
section OPYG
variable {Q k p N M m n u t : Nat} {φ ψ own up lo : Nat → Nat} {S S0 T0 U V : ev_St} {f : Nat → Int} {a : Int}
def cntI (f : Nat → Int) (ψ : Nat → Nat) (x : Nat) : Nat → Nat
  | 0 => 0
  | n + 1 => cntI f ψ x n + (if f n ≠ 18 ∧ ψ n < x then 1 else 0)
theorem cnt_le {x : Nat} : ∀ n, cntI f ψ x n ≤ nrc f n := fun n => by
  induction n with
  | zero => exact Nat.le_refl _
  | succ n ih =>
    show cntI f ψ x n + (if f n ≠ 18 ∧ ψ n < x then 1 else 0) ≤ nrc f n + (if f n = 18 then 0 else 1)
    by_cases y : f n = 18
    · rw [if_pos y, if_neg (fun z => z.1 y)]
      exact ih
    · rw [if_neg y]
      split <;> omega
theorem cnt_mono {x y : Nat} (h : x ≤ y) : ∀ n, cntI f ψ x n ≤ cntI f ψ y n := fun n => by
  induction n with
  | zero => exact Nat.le_refl _
  | succ n ih =>
    show cntI f ψ x n + (if f n ≠ 18 ∧ ψ n < x then 1 else 0) ≤ cntI f ψ y n + (if f n ≠ 18 ∧ ψ n < y then 1 else 0)
    by_cases z : f n ≠ 18 ∧ ψ n < x
    · rw [if_pos z, if_pos ⟨z.1, by omega⟩]
      omega
    · rw [if_neg z]
      omega
theorem cnt_str {x y j : Nat} (h : x ≤ y) (hj : f j ≠ 18) (h1 : x ≤ ψ j) (h2 : ψ j < y) : ∀ n, j < n → cntI f ψ x n + 1 ≤ cntI f ψ y n := fun n => by
  induction n with
  | zero => exact fun z => absurd z (Nat.not_lt_zero _)
  | succ n ih =>
    intro hn
    show cntI f ψ x n + (if f n ≠ 18 ∧ ψ n < x then 1 else 0) + 1 ≤ cntI f ψ y n + (if f n ≠ 18 ∧ ψ n < y then 1 else 0)
    by_cases e : j = n
    · subst e
      have m := cnt_mono (f := f) (ψ := ψ) h j
      rw [if_neg (fun z => by have := z.2; omega), if_pos ⟨hj, h2⟩]
      omega
    · have q := ih (by omega)
      by_cases z : f n ≠ 18 ∧ ψ n < x
      · rw [if_pos z, if_pos ⟨z.1, by omega⟩]
        omega
      · rw [if_neg z]
        omega
theorem lowC_ge {l h : Int64} : ∀ (n : Nat) (x : Int), 1 ≤ cz l h n x → x ≤ lowC l h n x := fun n => by
  induction n with
  | zero => intro x h; exact absurd h (by show ¬ (1 ≤ 0); omega)
  | succ n ih =>
    intro x hx
    have hx' : 1 ≤ (if cs l h x = 1 then 1 else 0) + cz l h n (x + 1) := hx
    show x ≤ (if cs l h x = 1 then x else lowC l h n (x + 1))
    by_cases y : cs l h x = 1
    · rw [if_pos y]
      exact Int.le_refl _
    · rw [if_neg y] at hx' ⊢
      have := ih (x + 1) (by omega)
      omega
/-- the parts that are open, innermost first -/
def OSo (N p : Nat) (up : Nat → Nat) (T0 : ev_St) : List Nat → Prop
  | [] => False
  | [u] => u = 0
  | u :: v :: r => (u < N ∧ u ≠ 0 ∧ opN p T0 u ∧ up (up u) = v) ∧ OSo N p up T0 (v :: r)
def STo (p : Nat) (T0 U : ev_St) : List Nat → Prop
  | [] => True
  | u :: r => U.1 660 r.length = T0.1 627 (320 * p + u) ∧ STo p T0 U r
theorem STo_c {U V : ev_St} : ∀ l : List Nat, (∀ i, i < l.length → V.1 660 i = U.1 660 i) → STo p T0 U l → STo p T0 V l
  | [], _, _ => trivial
  | u :: r, h, hs => ⟨(h r.length (by rw [List.length_cons]; omega)).trans hs.1, STo_c r (fun i hi => h i (by rw [List.length_cons]; omega)) hs.2⟩
theorem OS_phi (hF : FINX k N M φ ψ own up S0 (sft p T0)) (hL : LOf N M φ ψ up lo (sft p T0)) : ∀ (r : List Nat) (u : Nat), OSo N p up T0 (u :: r) → φ u + 2 * r.length + 1 ≤ M ∧ u < N := fun r => by
  have h := TREE_of hF
  have hN0 : 0 < N := hF.1.1.2.2.1
  obtain ⟨a0, _⟩ := hL
  induction r with
  | nil =>
    intro u ho
    have ho' : u = 0 := ho
    subst ho'
    have := a0.2
    show φ 0 + 2 * 0 + 1 ≤ M ∧ 0 < N
    omega
  | cons v r ih =>
    intro u ho
    obtain ⟨⟨h1, h2, h3, h4⟩, h5⟩ := ho
    obtain ⟨q1, q2⟩ := ih v h5
    have e25 : tK (sft p T0) u = T0.1 625 (320 * p + u) := sft_1 (by omega) (by omega)
    have u1 := h.2.2.2.2.2.1 u h1 h2
    have upN : up u < N := by have := UP_lt hF h1 h2 rfl; omega
    have k18 : tK (sft p T0) (up u) = 18 := by
      have w := PAR hF u u (Nat.le_refl _) h1 h2 rfl
      have k8 := h3.1
      exact Classical.byContradiction fun z => by
        have := w.mpr z
        omega
    have up0 : up u ≠ 0 := fun z => by
      rw [z] at k18
      rcases FINX_K hF hN0 with ⟨_, y | y⟩
      · omega
      · exact y.1 rfl
    have u2 := h.2.2.2.2.2.1 (up u) upN up0
    rw [h4] at u2
    have f1 : φ (up u) = ψ (up u) := ((h.2.2.1 (up u) upN up0).2 k18).2
    have f2 : φ u ≤ ψ u := by
      rcases h.2.2.2.2.2.2.2.2 u h1 with ⟨_, y⟩ | ⟨⟨y, _⟩, _⟩ | ⟨⟨y, _⟩, _⟩
      · have y' : ψ u = φ u := y
        omega
      · have := (TREE_r h h1).1 y
        omega
      · obtain ⟨x, y', e1, e2⟩ := TREE_2 h h1 y
        have := (TREE_r h h1).2 y x y' e1 e2
        omega
    rw [List.length_cons]
    exact ⟨by omega, h1⟩
def getA (a : Int) (w : List Int) : Int := if a < (w.length : Int) then w.getD a.toNat 0 else -1
/-- run and best run as the reference has them -/
def RBo (U : ev_St) (pos st : Nat) (run best : List Int) : Prop := (run.length ≤ pos ∧ ∀ i, i < run.length → U.1 661 (pos - run.length + i) = run.getD i 0) ∧ st + (lngr run best).length ≤ pos ∧ ∀ i, i < (lngr run best).length → U.1 661 (st + i) = (lngr run best).getD i 0
theorem getD_app {l : List Int} {x : Int} {i : Nat} : (i < l.length → (l ++ [x]).getD i 0 = l.getD i 0) ∧ (l ++ [x]).getD l.length 0 = x := by
  refine ⟨fun h => ?_, ?_⟩
  · rw [List.getD_eq_getElem?_getD, List.getD_eq_getElem?_getD, List.getElem?_append_left h]
  · rw [List.getD_eq_getElem?_getD, List.getElem?_append_right (Nat.le_refl _), Nat.sub_self]
    rfl
theorem RB_sign {pos st : Nat} {run best : List Int} {s : Int} (h : RBo U pos st run best) : ∃ st2 : Nat, (st2 : Int) = (if (run.length : Int) + 1 ≤ ((lngr run best).length : Int) then (st : Int) else ((pos : Int) + 1) - ((run.length : Int) + 1)) ∧ ((lngr (run ++ [s]) best).length : Int) = (if (run.length : Int) + 1 ≤ ((lngr run best).length : Int) then ((lngr run best).length : Int) else (run.length : Int) + 1) ∧ RBo (ev_pI U 661 pos s) (pos + 1) st2 (run ++ [s]) best := by
  obtain ⟨⟨h1, h2⟩, h3, h4⟩ := h
  have l1 : (run ++ [s]).length = run.length + 1 := by
    rw [List.length_append]
    rfl
  have r2 : ∀ i, i < (run ++ [s]).length → (ev_pI U 661 pos s).1 661 (pos + 1 - (run ++ [s]).length + i) = (run ++ [s]).getD i 0 := fun i hi => by
    rw [l1] at hi ⊢
    rw [show pos + 1 - (run.length + 1) + i = pos - run.length + i from by omega]
    by_cases e : i < run.length
    · rw [rd_nf (by omega), getD_app.1 e]
      exact h2 i e
    · obtain rfl : i = run.length := by omega
      rw [show pos - run.length + run.length = pos from by omega, rd_eq, (getD_app (i := 0)).2]
  by_cases y : (run.length : Int) + 1 ≤ ((lngr run best).length : Int)
  · have nb : lngr run best = best := by
      unfold lngr at y ⊢
      by_cases z : best.length < run.length
      · rw [if_pos z] at y
        omega
      · rw [if_neg z]
    rw [nb] at y h3 h4 ⊢
    have nb2 : lngr (run ++ [s]) best = best := by
      unfold lngr
      rw [l1, if_neg (by omega)]
    refine ⟨st, by rw [if_pos y], by rw [if_pos y, nb2], ⟨by rw [l1]; omega, r2⟩, by rw [nb2]; omega, fun i hi => ?_⟩
    rw [nb2] at hi ⊢
    rw [rd_nf (by omega)]
    exact h4 i hi
  · have nb2 : lngr (run ++ [s]) best = run ++ [s] := by
      unfold lngr at y ⊢
      rw [l1]
      by_cases z : best.length < run.length
      · rw [if_pos (by omega)]
      · rw [if_neg z] at y
        rw [if_pos (by omega)]
    refine ⟨pos - run.length, by rw [if_neg y]; omega, by rw [if_neg y, nb2, l1]; omega, ⟨by rw [l1]; omega, r2⟩, by rw [nb2, l1]; omega, fun i hi => ?_⟩
    rw [nb2] at hi ⊢
    have q := r2 i hi
    rw [l1, show pos + 1 - (run.length + 1) = pos - run.length from by omega] at q
    exact q
theorem RB_none {pos st : Nat} {run best : List Int} {s : Int} (h : RBo U pos st run best) : RBo (ev_pI U 661 pos s) pos st [] (lngr run best) := by
  obtain ⟨⟨h1, h2⟩, h3, h4⟩ := h
  have e : lngr [] (lngr run best) = lngr run best := if_neg (Nat.not_lt_zero _)
  refine ⟨⟨Nat.zero_le _, fun i hi => absurd hi (Nat.not_lt_zero i)⟩, by rw [e]; exact h3, fun i hi => ?_⟩
  rw [e] at hi ⊢
  rw [rd_nf (by omega)]
  exact h4 i hi
end OPYG
