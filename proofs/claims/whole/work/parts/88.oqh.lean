/-! FRAMES: weights of a pattern's nodes -/
section OQH
variable {N m t u v a b c : Nat} {kd ch nx rp : Nat → Int} {up y f g : Nat → Nat}
def pf (f : Nat → Nat) : Nat → Nat
  | 0 => 0
  | n + 1 => pf f n + f n
/-- the sum from a on, b left out -/
def sg (f : Nat → Nat) (a b : Nat) : Nat := pf f b - pf f a
theorem pf_mono (h : a ≤ b) : pf f a ≤ pf f b := by
  induction b with
  | zero =>
    obtain rfl : a = 0 := by omega
    exact Nat.le_refl _
  | succ b ih =>
    by_cases e : a = b + 1
    · rw [e]
      exact Nat.le_refl _
    · have := ih (by omega)
      show pf f a ≤ pf f b + f b
      omega
theorem sg_add (h1 : a ≤ b) (h2 : b ≤ c) : sg f a c = sg f a b + sg f b c := by
  have := pf_mono (f := f) h1
  have := pf_mono (f := f) h2
  unfold sg
  omega
theorem sg_0 : sg f a a = 0 := Nat.sub_self _
theorem sg_1 : sg f a (a + 1) = f a := by
  show pf f a + f a - pf f a = f a
  omega
theorem sg_h (h : a < b) : sg f a b = f a + sg f (a + 1) b := by
  rw [sg_add (Nat.le_succ a) h, sg_1]
theorem sg_le {k : Nat} (h1 : a ≤ b) (h : ∀ v, a ≤ v → v < b → f v ≤ k * g v) : sg f a b ≤ k * sg g a b := by
  induction b with
  | zero =>
    obtain rfl : a = 0 := by omega
    exact Nat.zero_le _
  | succ b ih =>
    by_cases e : a = b + 1
    · rw [e, sg_0]
      exact Nat.zero_le _
    · have i := ih (by omega) (fun v v1 v2 => h v v1 (by omega))
      have q := h b (by omega) (Nat.lt_succ_self b)
      rw [sg_add (show a ≤ b by omega) (Nat.le_succ b), sg_add (f := g) (show a ≤ b by omega) (Nat.le_succ b), sg_1, sg_1, Nat.mul_add]
      exact Nat.add_le_add i q
theorem sg_sub (h1 : a ≤ u) (h2 : u ≤ v) (h3 : v ≤ b) : sg f u v ≤ sg f a b := by
  have := pf_mono (f := f) h1
  have := pf_mono (f := f) h2
  have := pf_mono (f := f) h3
  unfold sg
  omega
theorem sg_mem (h1 : a ≤ v) (h2 : v < b) : f v ≤ sg f a b := by
  have := sg_sub (f := f) h1 (Nat.le_succ v) h2
  rw [sg_1] at this
  exact this
/-- an item, not a row and not the root -/
abbrev isI (kd : Nat → Int) (v : Nat) : Prop := v ≠ 0 ∧ kd v ≠ 18
abbrev pur (kd nx rp : Nat → Int) (v : Nat) : Prop := v ≠ 0 ∧ rp v = -1 ∧ (kd v = 14 ∨ ((kd v = 8 ∨ kd v = 9) ∧ nx (v + 1) = -1))
def itN (kd : Nat → Int) (v : Nat) : Nat := if isI kd v then 1 else 0
def g8N (kd : Nat → Int) (v : Nat) : Nat := if kd v = 8 ∧ v ≠ 0 then 1 else 0
def wN (kd : Nat → Int) (v : Nat) : Nat := itN kd v + g8N kd v
def tN (kd nx : Nat → Int) (v : Nat) : Nat := if isI kd v ∧ nx v = -1 then 1 else 0
def bN (nx : Nat → Int) (v : Nat) : Nat := if nx v = -1 then 0 else 2
def hN (kd : Nat → Int) (v : Nat) : Nat := if kd v = 8 then 2 else 0
def pN (kd nx rp : Nat → Int) (v : Nat) : Nat := if pur kd nx rp v then bN nx v + hN kd v else 0
def iN (kd nx rp : Nat → Int) (v : Nat) : Nat := if isI kd v ∧ ¬ pur kd nx rp v ∧ nx v ≠ -1 then 1 else 0
def mN (kd nx rp : Nat → Int) (v : Nat) : Nat := if isI kd v ∧ ¬ pur kd nx rp v then 1 else 0
def cN (kd : Nat → Int) (v : Nat) : Nat := if isI kd v then cst (kd v) else 0
theorem pur_I (h : pur kd nx rp v) : isI kd v := ⟨h.1, by have := h.2.2; omega⟩
theorem w_pt : pN kd nx rp v + 2 * iN kd nx rp v + 2 * tN kd nx v ≤ 2 * wN kd v := by
  unfold pN iN tN wN itN g8N
  by_cases i : isI kd v
  · by_cases z : pur kd nx rp v
    · by_cases x : nx v = -1
      · rw [if_pos z, if_neg (fun y => y.2.1 z), if_pos ⟨i, x⟩, if_pos i]
        by_cases e : kd v = 8
        · rw [if_pos ⟨e, i.1⟩, show bN nx v = 0 from if_pos x, show hN kd v = 2 from if_pos e]
          decide
        · rw [if_neg (fun y => e y.1), show bN nx v = 0 from if_pos x, show hN kd v = 0 from if_neg e]
          decide
      · rw [if_pos z, if_neg (fun y => y.2.1 z), if_neg (fun y => x y.2), if_pos i]
        by_cases e : kd v = 8
        · rw [if_pos ⟨e, i.1⟩, show bN nx v = 2 from if_neg x, show hN kd v = 2 from if_pos e]
          decide
        · rw [if_neg (fun y => e y.1), show bN nx v = 2 from if_neg x, show hN kd v = 0 from if_neg e]
          decide
    · rw [if_neg z, if_pos i]
      by_cases x : nx v = -1
      · rw [if_neg (fun y => y.2.2 x), if_pos ⟨i, x⟩]
        omega
      · rw [if_pos ⟨i, z, x⟩, if_neg (fun y => x y.2)]
        omega
  · rw [if_neg (fun z => i (pur_I z)), if_neg (fun y => i y.1), if_neg (fun y => i y.1)]
    omega
theorem p_pt : 3 * pN kd nx rp v ≤ 2 * cN kd v + 10 * g8N kd v := by
  unfold pN cN g8N
  by_cases z : pur kd nx rp v
  · rw [if_pos z, if_pos (pur_I z)]
    have b2 : bN nx v ≤ 2 := by
      unfold bN
      by_cases x : nx v = -1
      · rw [if_pos x]
        decide
      · rw [if_neg x]
        decide
    have k := z.2.2
    by_cases e : kd v = 8
    · rw [if_pos ⟨e, z.1⟩, show hN kd v = 2 from if_pos e, show cst (kd v) = 1 from if_pos e]
      omega
    · rw [if_neg (fun y => e y.1), show hN kd v = 0 from if_neg e, show cst (kd v) = 3 from by unfold cst; rw [if_neg e, if_pos (by omega)]]
      omega
  · rw [if_neg z]
    omega
def TXT (N : Nat) (kd nx : Nat → Int) (y : Nat → Nat) : Prop := (∀ m, m < N → isI kd m → y m + cst (kd m) ≤ 120) ∧ ∀ m t : Nat, m < N → isI kd m → nx m = (t : Int) → y m + cst (kd m) ≤ y t
/-- a row's items lie in one text -/
theorem rowc (h : TRE N kd ch nx up) (hy : TXT N kd nx y) : ∀ r m, m + r = N → m < N → (isI kd m → sg (cN kd) m (zE up N (up m)) + y m ≤ 120 * sg (tN kd nx) m (zE up N (up m))) ∧ (kd m = 18 → sg (cN kd) m (zE up N (up m)) ≤ 120 * sg (tN kd nx) m (zE up N (up m))) ∧ sg (cN kd) (m + 1) (zE up N m) ≤ 120 * sg (tN kd nx) (m + 1) (zE up N m) := fun r => by
  induction r using Nat.strongRecOn with
  | ind r ih =>
    intro m e1 hm
    have inn : sg (cN kd) (m + 1) (zE up N m) ≤ 120 * sg (tN kd nx) (m + 1) (zE up N m) := by
      by_cases hc : ch m = -1
      · rw [tr_c h hm hc, sg_0, sg_0]
        decide
      · obtain ⟨i1, i2, i3, i4, i5⟩ := tr_i h hm hc
        obtain ⟨a1, a2, a3⟩ := ih (N - (m + 1)) (by omega) (m + 1) (by omega) i1
        rw [i2] at a1 a2
        by_cases k : kd (m + 1) = 18
        · exact a2 k
        · have := a1 ⟨by omega, k⟩
          omega
    have zm := zE_in (up := up) hm
    have nxt : ∀ t : Nat, nx m = (t : Int) → t < N ∧ m < t ∧ (kd t = 18 ↔ kd m = 18) ∧ zE up N (up m) = zE up N (up t) ∧ zE up N m = t ∧ t < zE up N (up t) ∧ t ≠ 0 := fun t hx => by
      have zx := tr_x h hm hx
      rcases h.x1 m hm with z | ⟨s, z1, z2, z3, z4, z5⟩
      · omega
      · obtain rfl : s = t := by omega
        exact ⟨z3, z2, z5, by rw [z4], zx, tr_w h z3 (by omega), by omega⟩
    refine ⟨fun hi => ?_, fun h8 => ?_, inn⟩
    · have c0 : cN kd m = cst (kd m) := if_pos hi
      have y1 := hy.1 m hm hi
      by_cases hx : nx m = -1
      · have t1 : tN kd nx m = 1 := if_pos ⟨hi, hx⟩
        rw [← tr_l h hm hi.1 hx, sg_h zm.1, sg_h (f := tN kd nx) zm.1, c0, t1]
        omega
      · obtain ⟨t, ht⟩ : ∃ t : Nat, nx m = (t : Int) := by
          rcases h.x1 m hm with z | ⟨s, z1, _⟩
          · exact absurd z hx
          · exact ⟨s, z1⟩
        obtain ⟨n1, n2, n3, n4, n5, n6, n7⟩ := nxt t ht
        have y2 := hy.2 m t hm hi ht
        have := (ih (N - t) (by omega) t (by omega) n1).1 ⟨n7, fun e => hi.2 (n3.1 e)⟩
        rw [n5] at inn
        rw [n4, sg_add (show m ≤ t by omega) (Nat.le_of_lt n6), sg_add (f := tN kd nx) (show m ≤ t by omega) (Nat.le_of_lt n6), sg_h n2, sg_h (f := tN kd nx) n2, c0, show tN kd nx m = 0 from if_neg (fun z => hx z.2)]
        omega
    · have m0 : m ≠ 0 := fun e => by
        have := h.k0
        rw [e] at h8
        omega
      have c0 : cN kd m = 0 := if_neg (fun z => z.2 h8)
      have t0 : tN kd nx m = 0 := if_neg (fun z => z.1.2 h8)
      by_cases hx : nx m = -1
      · rw [← tr_l h hm m0 hx, sg_h zm.1, sg_h (f := tN kd nx) zm.1, c0, t0]
        omega
      · obtain ⟨t, ht⟩ : ∃ t : Nat, nx m = (t : Int) := by
          rcases h.x1 m hm with z | ⟨s, z1, _⟩
          · exact absurd z hx
          · exact ⟨s, z1⟩
        obtain ⟨n1, n2, n3, n4, n5, n6, n7⟩ := nxt t ht
        have := (ih (N - t) (by omega) t (by omega) n1).2.1 (n3.2 h8)
        rw [n5] at inn
        rw [n4, sg_add (show m ≤ t by omega) (Nat.le_of_lt n6), sg_add (f := tN kd nx) (show m ≤ t by omega) (Nat.le_of_lt n6), sg_h n2, sg_h (f := tN kd nx) n2, c0, t0]
        omega
/-- how much a part can hold: few rows hold little -/
theorem P_bd (h : TRE N kd ch nx up) (hy : TXT N kd nx y) (hm : m < N) (hg : sg (g8N kd) 0 N ≤ 9) : sg (pN kd nx rp) (m + 1) (zE up N m) + 2 * min 1 (sg (iN kd nx rp) (m + 1) (zE up N m)) ≤ 272 ∨ sg (pN kd nx rp) (m + 1) (zE up N m) + 2 * min 1 (sg (iN kd nx rp) (m + 1) (zE up N m)) + 8 ≤ 2 * sg (wN kd) (m + 1) (zE up N m) := by
  have r := (rowc h hy (N - m) m (by omega) hm).2.2
  obtain ⟨z1, z2, _⟩ := zE_in (up := up) hm
  have z3 : m + 1 ≤ zE up N m := z1
  have g9 : sg (g8N kd) (m + 1) (zE up N m) ≤ 9 := Nat.le_trans (sg_sub (Nat.zero_le _) z3 z2) hg
  have s1 : ∀ (f g : Nat → Nat) (k l : Nat), pf (fun v => k * f v + l * g v) = fun n => k * pf f n + l * pf g n := fun f g k l => by
    funext n
    induction n with
    | zero => rfl
    | succ n ih =>
      show pf (fun v => k * f v + l * g v) n + (k * f n + l * g n) = k * (pf f n + f n) + l * (pf g n + g n)
      rw [ih, Nat.mul_add, Nat.mul_add]
      omega
  have s2 : ∀ (f g : Nat → Nat) (k l : Nat), sg (fun v => k * f v + l * g v) (m + 1) (zE up N m) = k * sg f (m + 1) (zE up N m) + l * sg g (m + 1) (zE up N m) := fun f g k l => by
    have e1 := pf_mono (f := f) z3
    have e2 := pf_mono (f := g) z3
    have e3 := Nat.mul_le_mul_left k e1
    have e4 := Nat.mul_le_mul_left l e2
    unfold sg
    rw [s1, Nat.mul_sub, Nat.mul_sub]
    show k * pf f (zE up N m) + l * pf g (zE up N m) - (k * pf f (m + 1) + l * pf g (m + 1)) = _
    omega
  have a1 : 3 * sg (pN kd nx rp) (m + 1) (zE up N m) ≤ 2 * sg (cN kd) (m + 1) (zE up N m) + 10 * sg (g8N kd) (m + 1) (zE up N m) := by
    rw [← s2 (cN kd) (g8N kd) 2 10]
    have q := sg_le (f := fun v => 3 * pN kd nx rp v + 0 * pN kd nx rp v) (g := fun v => 2 * cN kd v + 10 * g8N kd v) (k := 1) z3 (fun v _ _ => by
      have := p_pt (kd := kd) (nx := nx) (rp := rp) (v := v)
      show 3 * pN kd nx rp v + 0 * pN kd nx rp v ≤ 1 * (2 * cN kd v + 10 * g8N kd v)
      omega)
    rw [s2 (pN kd nx rp) (pN kd nx rp) 3 0] at q
    omega
  have a2 : sg (pN kd nx rp) (m + 1) (zE up N m) + 2 * sg (iN kd nx rp) (m + 1) (zE up N m) + 2 * sg (tN kd nx) (m + 1) (zE up N m) ≤ 2 * sg (wN kd) (m + 1) (zE up N m) := by
    have q := sg_le (f := fun v => 1 * (fun v => 1 * pN kd nx rp v + 2 * iN kd nx rp v) v + 2 * tN kd nx v) (g := wN kd) (k := 2) z3 (fun v _ _ => by
      have := w_pt (kd := kd) (nx := nx) (rp := rp) (v := v)
      show 1 * (1 * pN kd nx rp v + 2 * iN kd nx rp v) + 2 * tN kd nx v ≤ 2 * wN kd v
      omega)
    rw [s2 (fun v => 1 * pN kd nx rp v + 2 * iN kd nx rp v) (tN kd nx) 1 2, s2 (pN kd nx rp) (iN kd nx rp) 1 2] at q
    omega
  by_cases t4 : 4 ≤ sg (tN kd nx) (m + 1) (zE up N m)
  · right
    omega
  · left
    omega
end OQH
