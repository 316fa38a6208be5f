/-! FRAMES: weights, second part; what is asked of a pattern -/
section OQI
variable {N m t u v a b c g k l : Nat} {kd ch nx rp : Nat → Int} {up y f h tg : Nat → Nat}
/-- frames ahead of a step, of an item that is not pure -/
def imN (kd nx rp : Nat → Int) (v : Nat) : Nat := if isI kd v ∧ ¬ pur kd nx rp v then bN nx v + hN kd v else 0
theorem bN_2 : bN nx v ≤ 2 := by
  unfold bN
  by_cases x : nx v = -1
  · rw [if_pos x]
    decide
  · rw [if_neg x]
    decide
theorem hN_2 : hN kd v ≤ 2 := by
  unfold hN
  by_cases x : kd v = 8
  · rw [if_pos x]
    decide
  · rw [if_neg x]
    decide
theorem w_pt2 : pN kd nx rp v + imN kd nx rp v + 2 * tN kd nx v ≤ 2 * wN kd v := by
  by_cases i : isI kd v
  · by_cases z : pur kd nx rp v
    · have q := w_pt (kd := kd) (nx := nx) (rp := rp) (v := v)
      rw [show imN kd nx rp v = 0 from if_neg (fun y => y.2 z)]
      omega
    · have e1 : pN kd nx rp v = 0 := if_neg z
      have e2 : imN kd nx rp v = bN nx v + hN kd v := if_pos ⟨i, z⟩
      have e3 : itN kd v = 1 := if_pos i
      have e4 : wN kd v = itN kd v + g8N kd v := rfl
      have tb : bN nx v + 2 * tN kd nx v ≤ 2 := by
        by_cases x : nx v = -1
        · rw [show bN nx v = 0 from if_pos x, show tN kd nx v = 1 from if_pos ⟨i, x⟩]
          decide
        · rw [show bN nx v = 2 from if_neg x, show tN kd nx v = 0 from if_neg (fun y => x y.2)]
          decide
      have hb : hN kd v ≤ 2 * g8N kd v := by
        by_cases e : kd v = 8
        · rw [show hN kd v = 2 from if_pos e, show g8N kd v = 1 from if_pos ⟨e, i.1⟩]
          decide
        · rw [show hN kd v = 0 from if_neg e]
          exact Nat.zero_le _
      omega
  · rw [show pN kd nx rp v = 0 from if_neg (fun z => i (pur_I z)), show imN kd nx rp v = 0 from if_neg (fun y => i y.1), show tN kd nx v = 0 from if_neg (fun y => i y.1)]
    omega
theorem sg_lin (h1 : a ≤ b) : sg (fun v => k * f v + l * h v) a b = k * sg f a b + l * sg h a b := by
  have s1 : ∀ n, pf (fun v => k * f v + l * h v) n = k * pf f n + l * pf h n := fun n => by
    induction n with
    | zero => rfl
    | succ n ih =>
      show pf (fun v => k * f v + l * h v) n + (k * f n + l * h n) = k * (pf f n + f n) + l * (pf h n + h n)
      rw [ih, Nat.mul_add, Nat.mul_add]
      omega
  have e1 := pf_mono (f := f) h1
  have e2 := pf_mono (f := h) h1
  have e3 := Nat.mul_le_mul_left k e1
  have e4 := Nat.mul_le_mul_left l e2
  unfold sg
  rw [s1, s1, Nat.mul_sub, Nat.mul_sub]
  omega
theorem sg_2 (h1 : a ≤ b) : sg (fun v => f v + h v) a b = sg f a b + sg h a b := by
  have q := sg_lin (f := f) (h := h) (k := 1) (l := 1) h1
  have e : (fun v => 1 * f v + 1 * h v) = fun v => f v + h v := by
    funext v
    omega
  rw [e] at q
  omega
theorem sg_ge (h1 : a ≤ b) (hh : ∀ v, a ≤ v → v < b → f v ≤ h v) : sg f a b ≤ sg h a b := by
  have := sg_le (f := f) (g := h) (k := 1) h1 (fun v v1 v2 => by
    have := hh v v1 v2
    omega)
  omega
theorem sg_z (h1 : a ≤ b) (hh : ∀ v, a ≤ v → v < b → f v = 0) : sg f a b = 0 := by
  have := sg_le (f := f) (g := f) (k := 0) h1 (fun v v1 v2 => by
    have := hh v v1 v2
    omega)
  omega
theorem sg_eq (h1 : a ≤ b) (hh : ∀ v, a ≤ v → v < b → f v = h v) : sg f a b = sg h a b := Nat.le_antisymm (sg_ge h1 (fun v v1 v2 => Nat.le_of_eq (hh v v1 v2))) (sg_ge h1 (fun v v1 v2 => Nat.le_of_eq (hh v v1 v2).symm))
theorem sg_ex (h1 : a ≤ b) (h2 : 0 < sg f a b) : ∃ v, a ≤ v ∧ v < b ∧ 0 < f v := Classical.byContradiction fun z => by
  have := sg_z (f := f) h1 (fun v v1 v2 => Classical.byContradiction fun w => z ⟨v, v1, v2, Nat.pos_of_ne_zero w⟩)
  omega
/-- f within u, v alone -/
def inI (u v : Nat) (f : Nat → Nat) (x : Nat) : Nat := if u ≤ x ∧ x < v then f x else 0
theorem sg_in (h1 : a ≤ u) (h2 : u ≤ v) (h3 : v ≤ b) : sg (inI u v f) a b = sg f u v := by
  rw [sg_add h1 (show u ≤ b by omega), sg_add h2 h3, sg_z (f := inI u v f) h1 (fun x x1 x2 => if_neg (by omega)), sg_z (f := inI u v f) h3 (fun x x1 x2 => if_neg (by omega)), sg_eq (f := inI u v f) (h := f) h2 (fun x x1 x2 => if_pos ⟨x1, x2⟩)]
  omega
theorem sg_pt (h1 : a ≤ u) (h3 : u < b) : sg (inI u (u + 1) f) a b = f u := by
  rw [sg_in h1 (Nat.le_succ u) h3, sg_1]
/-- one that is the most -/
theorem mx_ex {p : Nat → Prop} : ∀ n, (∃ v, v < n ∧ p v) → ∃ v, v < n ∧ p v ∧ ∀ u, u < n → p u → h u ≤ h v := fun n => by
  induction n with
  | zero =>
    rintro ⟨v, v1, _⟩
    omega
  | succ n ih =>
    rintro ⟨v, v1, v2⟩
    by_cases z : ∃ v, v < n ∧ p v
    · obtain ⟨w, w1, w2, w3⟩ := ih z
      by_cases q : p n ∧ h w < h n
      · refine ⟨n, Nat.lt_succ_self n, q.1, fun u u1 u2 => ?_⟩
        by_cases e : u = n
        · rw [e]
          exact Nat.le_refl _
        · have := w3 u (by omega) u2
          omega
      · refine ⟨w, by omega, w2, fun u u1 u2 => ?_⟩
        by_cases e : u = n
        · subst e
          exact Nat.le_of_not_lt fun r => q ⟨u2, r⟩
        · exact w3 u (by omega) u2
    · have e : v = n := Classical.byContradiction fun e => z ⟨v, by omega, v2⟩
      subst e
      refine ⟨v, v1, v2, fun u u1 u2 => ?_⟩
      have e : u = v := Classical.byContradiction fun e => z ⟨u, by omega, u2⟩
      rw [e]
      exact Nat.le_refl _
/-- few rows hold little -/
theorem P_bd2 (hT : TRE N kd ch nx up) (hy : TXT N kd nx y) (hm : m < N) (hg : sg (g8N kd) 0 N ≤ 9) : sg (pN kd nx rp) (m + 1) (zE up N m) + min 4 (sg (imN kd nx rp) (m + 1) (zE up N m)) ≤ 274 ∨ sg (pN kd nx rp) (m + 1) (zE up N m) + sg (imN kd nx rp) (m + 1) (zE up N m) + 8 ≤ 2 * sg (wN kd) (m + 1) (zE up N m) := by
  have r := (rowc hT hy (N - m) m (by omega) hm).2.2
  obtain ⟨z1, z2, _⟩ := zE_in (up := up) hm
  have z3 : m + 1 ≤ zE up N m := z1
  have g9 : sg (g8N kd) (m + 1) (zE up N m) ≤ 9 := Nat.le_trans (sg_sub (Nat.zero_le _) z3 z2) hg
  have a1 : 3 * sg (pN kd nx rp) (m + 1) (zE up N m) ≤ 2 * sg (cN kd) (m + 1) (zE up N m) + 10 * sg (g8N kd) (m + 1) (zE up N m) := by
    rw [← sg_lin z3]
    have q := sg_ge (f := fun v => 3 * pN kd nx rp v + 0 * pN kd nx rp v) (h := fun v => 2 * cN kd v + 10 * g8N kd v) z3 (fun v _ _ => by
      have := p_pt (kd := kd) (nx := nx) (rp := rp) (v := v)
      show 3 * pN kd nx rp v + 0 * pN kd nx rp v ≤ 2 * cN kd v + 10 * g8N kd v
      omega)
    rw [sg_lin (f := pN kd nx rp) (h := pN kd nx rp) (k := 3) (l := 0) z3] at q
    omega
  have a2 : sg (pN kd nx rp) (m + 1) (zE up N m) + sg (imN kd nx rp) (m + 1) (zE up N m) + 2 * sg (tN kd nx) (m + 1) (zE up N m) ≤ 2 * sg (wN kd) (m + 1) (zE up N m) := by
    have q := sg_le (f := fun v => (fun v => pN kd nx rp v + imN kd nx rp v) v + (fun v => 2 * tN kd nx v + 0 * tN kd nx v) v) (g := wN kd) (k := 2) z3 (fun v _ _ => by
      have := w_pt2 (kd := kd) (nx := nx) (rp := rp) (v := v)
      show pN kd nx rp v + imN kd nx rp v + (2 * tN kd nx v + 0 * tN kd nx v) ≤ 2 * wN kd v
      omega)
    rw [sg_2 z3, sg_2 z3, sg_lin (f := tN kd nx) (h := tN kd nx) (k := 2) (l := 0) z3] at q
    omega
  by_cases t4 : 4 ≤ sg (tN kd nx) (m + 1) (zE up N m)
  · right
    omega
  · left
    omega
/-- a part that is gone through without steps -/
def cg (N : Nat) (kd nx rp : Nat → Int) (up : Nat → Nat) (g : Nat) : Prop := nx (g + 1) = -1 ∧ sg (mN kd nx rp) (g + 1) (zE up N g) = 0
/-- a call within such a part, of it -/
def lpc (N : Nat) (kd nx rp : Nat → Int) (up tg : Nat → Nat) (v : Nat) : Prop := v ≠ 0 ∧ kd v = 14 ∧ cg N kd nx rp up (tg v) ∧ tg v < v ∧ v < zE up N (tg v)
noncomputable def lpN (N : Nat) (kd nx rp : Nat → Int) (up tg : Nat → Nat) (v : Nat) : Nat := @ite _ (lpc N kd nx rp up tg v) (Classical.propDecidable _) 1 0
def bf (p : Nat) : Nat := if p < 300 then p - 297 else p - 296
/-- what a call gains -/
noncomputable def bc (N : Nat) (kd nx rp : Nat → Int) (up tg : Nat → Nat) (v : Nat) : Nat := @ite _ (kd v = 14 ∧ cg N kd nx rp up (tg v) ∧ sg (lpN N kd nx rp up tg) (tg v + 1) (zE up N (tg v)) = 0) (Classical.propDecidable _) (bf (sg (pN kd nx rp) (tg v + 1) (zE up N (tg v)))) 0
noncomputable def beN (N : Nat) (kd nx rp : Nat → Int) (up tg : Nat → Nat) (v : Nat) : Nat := if v ≠ 0 ∧ kd v = 14 ∧ rp v = -1 then bc N kd nx rp up tg v else 0
theorem lpN_1 (h : lpc N kd nx rp up tg v) : (lpN N kd nx rp up tg) v = 1 := if_pos h
theorem lpN_0 (h : ¬ lpc N kd nx rp up tg v) : (lpN N kd nx rp up tg) v = 0 := if_neg h
theorem bc_1 (h : kd v = 14 ∧ cg N kd nx rp up (tg v) ∧ sg (lpN N kd nx rp up tg) (tg v + 1) (zE up N (tg v)) = 0) : bc N kd nx rp up tg v = bf (sg (pN kd nx rp) (tg v + 1) (zE up N (tg v))) := if_pos h
theorem bc_0 (h : ¬ (kd v = 14 ∧ cg N kd nx rp up (tg v) ∧ sg (lpN N kd nx rp up tg) (tg v + 1) (zE up N (tg v)) = 0)) : bc N kd nx rp up tg v = 0 := if_neg h
/-- what is asked of a pattern -/
def FRM (N : Nat) (kd ch nx rp : Nat → Int) (up y tg : Nat → Nat) : Prop := TRE N kd ch nx up ∧ TXT N kd nx y ∧ sg (g8N kd) 0 N ≤ 9 ∧ sg (wN kd) 0 N ≤ 159 ∧ ∀ v, v < N → v ≠ 0 → kd v = 14 → tg v < N ∧ (tg v = 0 ∨ kd (tg v) = 8)
theorem bf_m (h : a ≤ b) : bf a ≤ bf b := by
  unfold bf
  by_cases z : a < 300
  · rw [if_pos z]
    by_cases w : b < 300
    · rw [if_pos w]
      omega
    · rw [if_neg w]
      omega
  · rw [if_neg z, if_neg (show ¬ b < 300 by omega)]
    omega
/-- the whole weight -/
theorem W_all (hF : FRM N kd ch nx rp up y tg) (hh : ∀ v, v < N → f v ≤ wN kd v) : sg f 0 N ≤ 159 := Nat.le_trans (sg_ge (Nat.zero_le _) (fun v _ h2 => hh v h2)) hF.2.2.2.1
theorem P_W (hF : FRM N kd ch nx rp up y tg) (hm : m < N) (hp : 275 ≤ sg (pN kd nx rp) (m + 1) (zE up N m)) : sg (pN kd nx rp) (m + 1) (zE up N m) + 8 ≤ 2 * sg (wN kd) (m + 1) (zE up N m) := by
  rcases P_bd2 (rp := rp) hF.1 hF.2.1 hm hF.2.2.1 with z | z <;> omega
theorem w_it (h : isI kd v) : 1 ≤ wN kd v := by
  unfold wN itN
  rw [if_pos h]
  omega
theorem w_g (h0 : v ≠ 0) (h : kd v = 8) : wN kd v = 2 := by
  unfold wN itN g8N
  rw [if_pos ⟨h0, by rw [h]; decide⟩, if_pos ⟨h, h0⟩]
/-- a call that gains -/
theorem b_pos (hF : FRM N kd ch nx rp up y tg) (hv : v < N) (hb : 0 < (beN N kd nx rp up tg) v) : v ≠ 0 ∧ kd v = 14 ∧ rp v = -1 ∧ tg v < N ∧ tg v ≠ 0 ∧ kd (tg v) = 8 ∧ ¬ (tg v < v ∧ v < zE up N (tg v)) ∧ cg N kd nx rp up (tg v) ∧ (beN N kd nx rp up tg) v = bf (sg (pN kd nx rp) (tg v + 1) (zE up N (tg v))) ∧ 298 ≤ sg (pN kd nx rp) (tg v + 1) (zE up N (tg v)) ∧ sg (pN kd nx rp) (tg v + 1) (zE up N (tg v)) + 8 ≤ 2 * sg (wN kd) (tg v + 1) (zE up N (tg v)) := by
  unfold beN at hb
  have c1 : v ≠ 0 ∧ kd v = 14 ∧ rp v = -1 := Classical.byContradiction fun z => by
    rw [if_neg z] at hb
    omega
  have e1 : (beN N kd nx rp up tg) v = bc N kd nx rp up tg v := if_pos c1
  rw [if_pos c1] at hb
  have c2 : kd v = 14 ∧ cg N kd nx rp up (tg v) ∧ sg (lpN N kd nx rp up tg) (tg v + 1) (zE up N (tg v)) = 0 := Classical.byContradiction fun z => by
    rw [bc_0 z] at hb
    omega
  rw [bc_1 c2] at hb
  have hP : 298 ≤ sg (pN kd nx rp) (tg v + 1) (zE up N (tg v)) := Classical.byContradiction fun z => by
    unfold bf at hb
    rw [if_pos (by omega)] at hb
    omega
  obtain ⟨t1, t2⟩ := hF.2.2.2.2 v hv c1.1 c1.2.1
  have out : ¬ (tg v < v ∧ v < zE up N (tg v)) := fun z => by
    have l1 : (lpN N kd nx rp up tg) v = 1 := lpN_1 ⟨c1.1, c1.2.1, c2.2.1, z⟩
    have := sg_mem (f := (lpN N kd nx rp up tg)) (a := tg v + 1) (b := zE up N (tg v)) (v := v) z.1 z.2
    omega
  have n0 : tg v ≠ 0 := fun z => by
    rw [z] at out
    rw [tr_0 hF.1] at out
    omega
  refine ⟨c1.1, c1.2.1, c1.2.2, t1, n0, by rcases t2 with z | z; exact absurd z n0; exact z, out, c2.2.1, by rw [e1, bc_1 c2], hP, P_W hF t1 (by omega)⟩
/-- two heavy parts: one within the other -/
theorem nest (hF : FRM N kd ch nx rp up y tg) (ha : a < b) (hb : b < N) (h1 : 160 ≤ sg (wN kd) (a + 1) (zE up N a) + sg (wN kd) (b + 1) (zE up N b)) : b < zE up N a ∧ zE up N b ≤ zE up N a := by
  have za := zE_in (up := up) (show a < N by omega)
  have zb := zE_in (up := up) hb
  have q : b < zE up N a := Classical.byContradiction fun z => by
    have s1 := sg_add (f := (wN kd)) (show 0 ≤ a + 1 by omega) (show a + 1 ≤ N by omega)
    have s2 := sg_add (f := (wN kd)) (show a + 1 ≤ zE up N a by omega) (show zE up N a ≤ N by omega)
    have s3 := sg_sub (f := (wN kd)) (show zE up N a ≤ b + 1 by omega) (show b + 1 ≤ zE up N b by omega) zb.2.1
    have := hF.2.2.2.1
    omega
  exact ⟨q, zE_ne (by omega) ha q⟩
end OQI
