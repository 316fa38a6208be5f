/-! SEARCH: places of codes: each move within a level goes forward -/
section OPZB
variable {Q k p N M m n b s t a : Nat} {φ ψ own up lo : Nat → Nat} {S T U : ev_St}
theorem sa_lo (hA : STA k p N M φ ψ own up lo U) (hm : m < N) : lo m ≤ φ m ∧ φ m ≤ ψ m ∧ (m ≠ 0 → ψ m < φ (up m)) := by
  refine ⟨lo_le hA.1 hA.2.1 N m hm (by omega), ?_, fun h0 => hA.1.1.2.1.2.1 m hm h0⟩
  rcases sa_rep hA hm with y | ⟨y | y, _⟩
  · rw [y.2]
    exact Nat.le_refl _
  · exact Nat.le_of_lt y.2.2
  · have := y.2.1
    have := y.2.2.1
    omega
/-- what lies between an item and the next one is within it -/
theorem sa_in (hA : STA k p N M φ ψ own up lo U) (hs : s < N) (hx : U.1 627 (320 * p + s) = (t : Int)) : ∀ n u, u ≤ n → s < u → u < t → s ≤ up u ∧ up u < u ∧ ψ u < ψ s := fun n => by
  have e : ∀ c m, 625 ≤ c → c ≤ 632 → (sft p U).1 c (3840 + m) = U.1 c (320 * p + m) := fun c m h1 h2 => sft_1 h1 h2
  have hL := hA.2.1.2.2.2.2.2.2
  have hU := hA.1.1.2.1.1
  have tN : t < N := by
    rcases sa_next hA hs with y | ⟨t', y1, y2, y3, _⟩
    · omega
    · omega
  induction n with
  | zero => exact fun u h1 h2 _ => absurd h2 (by omega)
  | succ n ih =>
    intro u h1 h2 h3
    have key : s ≤ up u ∧ up u < u := by
      rcases hU.2.2.2 u (by omega) (by omega) with y | ⟨v, y1, y2, y3⟩
      · have uN := hU.1 u (by omega)
        have q := hL s t u (up u) hs (by rw [e 627 s (by omega) (by omega)]; exact hx) h2 h3 uN (Or.inl y)
        rw [e 626 _ (by omega) (by omega)] at y
        rcases sa_child hA uN with z | ⟨z1, z2, z3, z4, z5⟩
        · exfalso
          omega
        · exact ⟨q, by omega⟩
      · have q := hL s t u v hs (by rw [e 627 s (by omega) (by omega)]; exact hx) h2 h3 y1 (Or.inr y2)
        rw [e 627 v (by omega) (by omega)] at y2
        have vu : v < u := by
          rcases sa_next hA y1 with z | ⟨t', z1, z2, _⟩
          · exfalso
            omega
          · omega
        have vs : v ≠ s := fun z => by
          subst z
          omega
        have i := ih v (by omega) (by omega) (by omega)
        rw [y3] at i
        exact ⟨i.1, by omega⟩
    have l := (sa_lo hA (show u < N by omega)).2.2 (by omega)
    have l2 := sa_lo hA (show up u < N by omega)
    by_cases z : up u = s
    · rw [z] at l l2
      exact ⟨key.1, key.2, by omega⟩
    · have i := ih (up u) (by omega) (by omega) (by omega)
      exact ⟨key.1, key.2, by omega⟩
theorem sa_mono1 (hA : STA k p N M φ ψ own up lo U) (ht : t + 1 < N) : lo t ≤ lo (t + 1) := by
  have e : ∀ c m, 625 ≤ c → c ≤ 632 → (sft p U).1 c (3840 + m) = U.1 c (320 * p + m) := fun c m h1 h2 => sft_1 h1 h2
  have hU := hA.1.1.2.1.1
  rcases hU.2.2.2 (t + 1) (by omega) ht with y | ⟨v, y1, y2, y3⟩
  · have uN := hU.1 (t + 1) ht
    rw [e 626 _ (by omega) (by omega)] at y
    rcases sa_child hA uN with z | ⟨z1, z2, z3, z4, z5⟩
    · exfalso
      omega
    · have ut : up (t + 1) = t := by omega
      rw [ut] at z5
      exact Nat.le_of_eq z5.symm
  · rw [e 627 v (by omega) (by omega)] at y2
    rcases sa_next hA y1 with z | ⟨t', z1, z2, z3, z4, z5, z6⟩
    · exfalso
      omega
    · have te : t' = t + 1 := by omega
      subst te
      have l := sa_lo hA (show t < N by omega)
      by_cases w : t = v
      · subst w
        omega
      · have i := sa_in hA y1 z1 t t (Nat.le_refl _) (by omega) (by omega)
        omega
theorem sa_mono (hA : STA k p N M φ ψ own up lo U) : ∀ t s, s ≤ t → t < N → lo s ≤ lo t := fun t => by
  induction t with
  | zero =>
    intro s h1 _
    rw [Nat.le_zero.mp h1]
    exact Nat.le_refl _
  | succ t ih =>
    intro s h1 h2
    by_cases z : s = t + 1
    · rw [z]
      exact Nat.le_refl _
    · exact Nat.le_trans (ih s (by omega) (by omega)) (sa_mono1 hA h2)
/-- how many nodes begin up to b -/
def cnL (lo : Nat → Nat) (b : Nat) : Nat → Nat
  | 0 => 0
  | n + 1 => cnL lo b n + (if lo n ≤ b then 1 else 0)
theorem cnL_le : ∀ n, cnL lo b n ≤ n := fun n => by
  induction n with
  | zero => exact Nat.le_refl _
  | succ n ih =>
    have : cnL lo b (n + 1) = cnL lo b n + (if lo n ≤ b then 1 else 0) := rfl
    rw [this]
    split <;> omega
theorem cnL_mono {b2 : Nat} (h : b ≤ b2) : ∀ n, cnL lo b n ≤ cnL lo b2 n := fun n => by
  induction n with
  | zero => exact Nat.le_refl _
  | succ n ih =>
    have e1 : cnL lo b (n + 1) = cnL lo b n + (if lo n ≤ b then 1 else 0) := rfl
    have e2 : cnL lo b2 (n + 1) = cnL lo b2 n + (if lo n ≤ b2 then 1 else 0) := rfl
    rw [e1, e2]
    by_cases y : lo n ≤ b
    · rw [if_pos y, if_pos (by omega)]
      omega
    · rw [if_neg y]
      omega
theorem cnL_ge (h : ∀ j, j < m → lo j ≤ b) : ∀ n, m ≤ n → m ≤ cnL lo b n := fun n => by
  induction n with
  | zero => exact fun h => by omega
  | succ n ih =>
    intro h1
    have e1 : cnL lo b (n + 1) = cnL lo b n + (if lo n ≤ b then 1 else 0) := rfl
    by_cases y : m = n + 1
    · have q : ∀ n, n ≤ m → n ≤ cnL lo b n := fun n => by
        induction n with
        | zero => exact fun _ => Nat.le_refl _
        | succ n ih2 =>
          intro z
          have e2 : cnL lo b (n + 1) = cnL lo b n + (if lo n ≤ b then 1 else 0) := rfl
          rw [e2, if_pos (h n (by omega))]
          have := ih2 (by omega)
          omega
      have := q m (Nat.le_refl _)
      rw [y] at this ⊢
      exact this
    · have := ih (by omega)
      rw [e1]
      omega
theorem cnL_up (h : ∀ j, t ≤ j → j < N → b < lo j) : ∀ n, n ≤ N → cnL lo b n ≤ t := fun n => by
  induction n with
  | zero => exact fun _ => Nat.zero_le _
  | succ n ih =>
    intro h1
    have e1 : cnL lo b (n + 1) = cnL lo b n + (if lo n ≤ b then 1 else 0) := rfl
    by_cases y : n < t
    · have := cnL_le (lo := lo) (b := b) (n + 1)
      omega
    · rw [e1, if_neg (by have := h n (by omega) (by omega); omega)]
      exact ih (by omega)
/-- where a node is entered, where it is left -/
def pE (lo : Nat → Nat) (m : Nat) : Nat := lo m + m
def pL (lo : Nat → Nat) (N b : Nat) : Nat := b + cnL lo b N
theorem pEL (hA : STA k p N M φ ψ own up lo U) (hm : m < N) (hb : lo m ≤ b) : pE lo m < pL lo N b := by
  have q := cnL_ge (lo := lo) (b := b) (m := m + 1) (fun j hj => Nat.le_trans (sa_mono hA m j (by omega) hm) hb) N (by omega)
  unfold pE pL
  omega
theorem pLE (hA : STA k p N M φ ψ own up lo U) (ht : t < N) (hb : b < lo t) : pL lo N b < pE lo t := by
  have q := cnL_up (lo := lo) (b := b) (t := t) (N := N) (fun j h1 h2 => Nat.lt_of_lt_of_le hb (sa_mono hA j t h1 h2)) N (Nat.le_refl _)
  unfold pE pL
  omega
theorem pLL {b2 : Nat} (h : b < b2) : pL lo N b < pL lo N b2 := by
  have := cnL_mono (lo := lo) (Nat.le_of_lt h) N
  unfold pL
  omega
theorem pEE (hA : STA k p N M φ ψ own up lo U) (h : s < t) (ht : t < N) : pE lo s < pE lo t := by
  have := sa_mono hA t s (by omega) ht
  unfold pE
  omega
theorem pE_b (hA : STA k p N M φ ψ own up lo U) (hm : m < N) : pE lo m < 720 := by
  have := (sa_lo hA hm).1
  have := (sa_node hA hm).1.1
  have := (sa_num hA).1
  unfold pE
  omega
theorem pL_b (hA : STA k p N M φ ψ own up lo U) (hb : b < M) : pL lo N b < 720 := by
  have := cnL_le (lo := lo) (b := b) N
  have := (sa_num hA).1
  unfold pL
  omega
/-- the place of a code -/
def posC (own lo : Nat → Nat) (N : Nat) (c : Int) : Nat := if c % 4 = 0 then pE lo (own (c / 4).toNat) else pL lo N (c / 4).toNat
theorem posC_E : posC own lo N (4 * (b : Int)) = pE lo (own b) := by
  unfold posC
  rw [if_pos (by omega), show (4 * (b : Int) / 4).toNat = b from by omega]
theorem posC_L : posC own lo N (4 * (b : Int) + 1) = pL lo N b := by
  unfold posC
  rw [if_neg (by omega), show ((4 * (b : Int) + 1) / 4).toNat = b from by omega]
theorem posC_R : posC own lo N (4 * (b : Int) + 2) = pL lo N b := by
  unfold posC
  rw [if_neg (by omega), show ((4 * (b : Int) + 2) / 4).toNat = b from by omega]
/-- behind an item one is further -/
theorem pos_nx (hA : STA k p N M φ ψ own up lo U) (hm : m < N) (h0 : m ≠ 0) (h18 : U.1 625 (320 * p + m) ≠ 18) : pE lo m < posC own lo N (nxC2 p φ ψ up U m) ∧ (∀ b, b ≤ ψ m → pL lo N b < posC own lo N (nxC2 p φ ψ up U m)) ∧ posC own lo N (nxC2 p φ ψ up U m) < 720 ∧ ∃ b w : Nat, b < M ∧ w ≤ 1 ∧ nxC2 p φ ψ up U m = 4 * (b : Int) + (w : Int) := by
  obtain ⟨l1, l2, l3⟩ := sa_lo hA hm
  obtain ⟨a1, a2, a3, a4, a5, a6, a7⟩ := sa_after hA hm h0 h18
  have r := sa_row hA (show up m < N by omega) a2
  have l4 := (sa_lo hA (show up m < N by omega)).2.2 a3
  have l0 := l3 h0
  have nd := (sa_node hA (show up (up m) < N by omega)).1
  unfold nxC2
  rcases sa_next hA hm with ⟨y, _⟩ | ⟨t, y1, y2, y3, y4, y5, y6⟩
  · rw [if_pos y, posC_L]
    rw [r.2.1] at l4
    exact ⟨pEL hA hm (by omega), fun b hb => pLL (by omega), pL_b hA nd.1, _, 1, nd.1, by omega, by omega⟩
  · have nt := (sa_node hA y3).1
    rw [if_neg (by omega), y1, Int.toNat_natCast, posC_E, nt.2.2.2.1]
    exact ⟨pEE hA y2 y3, fun b hb => pLE hA y3 (by omega), pE_b hA y3, _, 0, nt.2.1, by omega, by omega⟩
/-- groups that are still ahead -/
def cn2 (f : Nat → Int) (P : Nat → Nat) (a : Nat) : Nat → Nat
  | 0 => 0
  | n + 1 => cn2 f P a n + (if f n = 8 ∧ a ≤ P n then 1 else 0)
theorem cn2_mono {f : Nat → Int} {P : Nat → Nat} {a2 : Nat} (h : a ≤ a2) : ∀ n, cn2 f P a2 n ≤ cn2 f P a n := fun n => by
  induction n with
  | zero => exact Nat.le_refl _
  | succ n ih =>
    have e1 : cn2 f P a (n + 1) = cn2 f P a n + (if f n = 8 ∧ a ≤ P n then 1 else 0) := rfl
    have e2 : cn2 f P a2 (n + 1) = cn2 f P a2 n + (if f n = 8 ∧ a2 ≤ P n then 1 else 0) := rfl
    rw [e1, e2]
    by_cases y : f n = 8 ∧ a2 ≤ P n
    · rw [if_pos y, if_pos ⟨y.1, by omega⟩]
      omega
    · rw [if_neg y]
      omega
theorem cn2_str {f : Nat → Int} {P : Nat → Nat} {g a2 : Nat} (hg : f g = 8) (h1 : a ≤ P g) (h2 : P g < a2) : ∀ n, g < n → cn2 f P a2 n + 1 ≤ cn2 f P a n := fun n => by
  induction n with
  | zero => exact fun h => by omega
  | succ n ih =>
    intro hn
    have e1 : cn2 f P a (n + 1) = cn2 f P a n + (if f n = 8 ∧ a ≤ P n then 1 else 0) := rfl
    have e2 : cn2 f P a2 (n + 1) = cn2 f P a2 n + (if f n = 8 ∧ a2 ≤ P n then 1 else 0) := rfl
    rw [e1, e2]
    by_cases z : g = n
    · subst z
      rw [if_neg (show ¬ (f g = 8 ∧ a2 ≤ P g) by omega), if_pos ⟨hg, h1⟩]
      have := cn2_mono (f := f) (P := P) (show a ≤ a2 by omega) g
      omega
    · have := ih (by omega)
      by_cases y : f n = 8 ∧ a2 ≤ P n
      · rw [if_pos y, if_pos ⟨y.1, by omega⟩]
        omega
      · rw [if_neg y]
        omega
def cj (f g : Nat → Int) (j : Int) : Nat → Nat
  | 0 => 0
  | n + 1 => cj f g j n + (if f n = 8 ∧ g n = j then 1 else 0)
theorem cj_1 {f g : Nat → Int} {h : Int → Int} (hh : ∀ m, m < N → f m = 8 → h (g m) = (m : Int)) (j : Int) : ∀ n, n ≤ N → cj f g j n ≤ 1 ∧ (cj f g j n = 1 → ∃ m, m < n ∧ h j = (m : Int)) := fun n => by
  induction n with
  | zero => exact fun _ => ⟨Nat.zero_le _, fun z => absurd z (Nat.zero_ne_one)⟩
  | succ n ih =>
    intro hn
    obtain ⟨i1, i2⟩ := ih (by omega)
    have e1 : cj f g j (n + 1) = cj f g j n + (if f n = 8 ∧ g n = j then 1 else 0) := rfl
    rw [e1]
    by_cases y : f n = 8 ∧ g n = j
    · rw [if_pos y]
      have q := hh n (by omega) y.1
      rw [y.2] at q
      have z : cj f g j n = 0 := Classical.byContradiction fun w => by
        obtain ⟨m, m1, m2⟩ := i2 (by omega)
        omega
      rw [z]
      exact ⟨by omega, fun _ => ⟨n, by omega, q⟩⟩
    · rw [if_neg y, Nat.add_zero]
      exact ⟨i1, fun w => by
        obtain ⟨m, m1, m2⟩ := i2 w
        exact ⟨m, by omega, m2⟩⟩
theorem cn2_9 {f g : Nat → Int} {P : Nat → Nat} {h : Int → Int} (hh : ∀ m, m < N → f m = 8 → h (g m) = (m : Int) ∧ 1 ≤ g m ∧ g m ≤ 9) : ∀ n, n ≤ N → cn2 f P a n ≤ 9 := fun n hn => by
  have s : ∀ n, n ≤ N → cn2 f P a n ≤ cj f g 1 n + cj f g 2 n + cj f g 3 n + cj f g 4 n + cj f g 5 n + cj f g 6 n + cj f g 7 n + cj f g 8 n + cj f g 9 n := fun n => by
    induction n with
    | zero => exact fun _ => Nat.le_refl _
    | succ n ih =>
      intro h1
      have e1 : cn2 f P a (n + 1) = cn2 f P a n + (if f n = 8 ∧ a ≤ P n then 1 else 0) := rfl
      have e2 : ∀ j, cj f g j (n + 1) = cj f g j n + (if f n = 8 ∧ g n = j then 1 else 0) := fun _ => rfl
      have i := ih (by omega)
      simp only [e1, e2]
      by_cases y : f n = 8
      · have q := (hh n (by omega) y).2
        have w : ∀ j, (if f n = 8 ∧ g n = j then 1 else 0) = if g n = j then 1 else 0 := fun j => by
          by_cases z : g n = j
          · rw [if_pos ⟨y, z⟩, if_pos z]
          · rw [if_neg (fun v => z v.2), if_neg z]
        have w2 : (if f n = 8 ∧ a ≤ P n then 1 else 0) ≤ 1 := by split <;> omega
        simp only [w]
        have c : g n = 1 ∨ g n = 2 ∨ g n = 3 ∨ g n = 4 ∨ g n = 5 ∨ g n = 6 ∨ g n = 7 ∨ g n = 8 ∨ g n = 9 := by omega
        rcases c with c | c | c | c | c | c | c | c | c <;> simp [c] <;> omega
      · rw [if_neg (fun v => y v.1)]
        omega
  have q := fun j => (cj_1 (N := N) (f := f) (g := g) (h := h) (fun m m1 m2 => (hh m m1 m2).1) j n hn).1
  have := s n hn
  have := q 1
  have := q 2
  have := q 3
  have := q 4
  have := q 5
  have := q 6
  have := q 7
  have := q 8
  have := q 9
  omega
/-- how many cells the groups that are ahead of a place can take -/
def pcL (p N : Nat) (φ lo : Nat → Nat) (U : ev_St) (a : Nat) : Nat := cn2 (fun m => U.1 625 (320 * p + m)) (pE lo) a N + cn2 (fun m => U.1 625 (320 * p + m)) (fun m => pL lo N (φ m)) a N
theorem pcL_mono {a2 : Nat} (h : a ≤ a2) : pcL p N φ lo U a2 ≤ pcL p N φ lo U a := Nat.add_le_add (cn2_mono h N) (cn2_mono h N)
theorem pcL_E {a2 : Nat} (hm : m < N) (h8 : U.1 625 (320 * p + m) = 8) (h1 : a ≤ pE lo m) (h2 : pE lo m < a2) : pcL p N φ lo U a2 + 1 ≤ pcL p N φ lo U a := by
  have q1 := cn2_str (f := fun m => U.1 625 (320 * p + m)) (P := pE lo) (g := m) h8 h1 h2 N hm
  have q2 := cn2_mono (f := fun m => U.1 625 (320 * p + m)) (P := fun m => pL lo N (φ m)) (show a ≤ a2 by omega) N
  unfold pcL
  omega
theorem pcL_L {a2 : Nat} (hm : m < N) (h8 : U.1 625 (320 * p + m) = 8) (h1 : a ≤ pL lo N (φ m)) (h2 : pL lo N (φ m) < a2) : pcL p N φ lo U a2 + 1 ≤ pcL p N φ lo U a := by
  have q1 := cn2_str (f := fun m => U.1 625 (320 * p + m)) (P := fun m => pL lo N (φ m)) (g := m) h8 h1 h2 N hm
  have q2 := cn2_mono (f := fun m => U.1 625 (320 * p + m)) (P := pE lo) (show a ≤ a2 by omega) N
  unfold pcL
  omega
theorem pcL_18 (hA : STA k p N M φ ψ own up lo U) : pcL p N φ lo U a ≤ 18 := by
  have e : ∀ c m, 625 ≤ c → c ≤ 632 → (sft p U).1 c (3840 + m) = U.1 c (320 * p + m) := fun c m h1 h2 => sft_1 h1 h2
  have hh : ∀ m, m < N → U.1 625 (320 * p + m) = 8 → U.1 637 (10 * p + (U.1 628 (320 * p + m)).toNat) = (m : Int) ∧ 1 ≤ U.1 628 (320 * p + m) ∧ U.1 628 (320 * p + m) ≤ 9 := fun m hm h8 => by
    have v := hA.1.1.2.2.2.1.1 m hm
    have v3 := v.2.2
    rw [e 625 m (by omega) (by omega), e 628 m (by omega) (by omega), sft_7] at v3
    have v1 := v.1
    rw [e 625 m (by omega) (by omega), e 628 m (by omega) (by omega), e 629 m (by omega) (by omega)] at v1
    exact ⟨(v3 h8).2, v1.2.2.2.1 (Or.inl h8)⟩
  have q1 := cn2_9 (N := N) (a := a) (f := fun m => U.1 625 (320 * p + m)) (g := fun m => U.1 628 (320 * p + m)) (P := pE lo) (h := fun j => U.1 637 (10 * p + j.toNat)) hh N (Nat.le_refl _)
  have q2 := cn2_9 (N := N) (a := a) (f := fun m => U.1 625 (320 * p + m)) (g := fun m => U.1 628 (320 * p + m)) (P := fun m => pL lo N (φ m)) (h := fun j => U.1 637 (10 * p + j.toNat)) hh N (Nat.le_refl _)
  unfold pcL
  omega
end OPZB
